section
-- ===== PART A: goes FIRST, ahead of the names: the tables' words, and 'selects' of the private methods out of them =====
/-- a private method of a class that the tables say can be made, by its rows of tables_1 -/
def lw_okq (q : MethodName × Nat) : Prop := (q.1.cls ≠ "java/lang/invoke/MethodHandle" ∧ q.1.cls ≠ "java/lang/invoke/VarHandle") ∧ Cond.instantiable q.1.cls q.2 ∈ tables_1 ∧ Cond.privateMethod q.1 ∈ tables_1 ∧ Cond.instanceMethod q.1 ∈ tables_1
theorem lw_p0 : lw_okq (⟨"PollMeshes$Directions", "addAlong", "(II)V"⟩, 3) := ⟨⟨by decide +kernel, by decide +kernel⟩, List.mem_of_getElem? (i := 67) (by decide +kernel), List.mem_of_getElem? (i := 190) (by decide +kernel), List.mem_of_getElem? (i := 191) (by decide +kernel)⟩
theorem lw_p1 : lw_okq (⟨"PollMeshes$Search", "moveTo", "(III)V"⟩, 9) := ⟨⟨by decide +kernel, by decide +kernel⟩, List.mem_of_getElem? (i := 92) (by decide +kernel), List.mem_of_getElem? (i := 202) (by decide +kernel), List.mem_of_getElem? (i := 203) (by decide +kernel)⟩
theorem lw_p2 : lw_okq (⟨"PollMeshes$Trials", "insert", "(IJJ)V"⟩, 6) := ⟨⟨by decide +kernel, by decide +kernel⟩, List.mem_of_getElem? (i := 274) (by decide +kernel), List.mem_of_getElem? (i := 518) (by decide +kernel), List.mem_of_getElem? (i := 519) (by decide +kernel)⟩
theorem lw_p3 : lw_okq (⟨"PollMeshes", "boundOf", "(I)I"⟩, 8) := ⟨⟨by decide +kernel, by decide +kernel⟩, List.mem_of_getElem? (i := 16) (by decide +kernel), List.mem_of_getElem? (i := 571) (by decide +kernel), List.mem_of_getElem? (i := 572) (by decide +kernel)⟩
theorem lw_p4 : lw_okq (⟨"PollMeshes$Span", "fill", "(LPollMeshes$Directions;I)V"⟩, 3) := ⟨⟨by decide +kernel, by decide +kernel⟩, List.mem_of_getElem? (i := 317) (by decide +kernel), List.mem_of_getElem? (i := 592) (by decide +kernel), List.mem_of_getElem? (i := 593) (by decide +kernel)⟩
theorem lw_p5 : lw_okq (⟨"PollMeshes$Span", "addAlong", "(II)V"⟩, 3) := ⟨⟨by decide +kernel, by decide +kernel⟩, List.mem_of_getElem? (i := 317) (by decide +kernel), List.mem_of_getElem? (i := 597) (by decide +kernel), List.mem_of_getElem? (i := 598) (by decide +kernel)⟩
theorem lw_p6 : lw_okq (⟨"PollMeshes$Span", "findNormal", "(II)Z"⟩, 3) := ⟨⟨by decide +kernel, by decide +kernel⟩, List.mem_of_getElem? (i := 317) (by decide +kernel), List.mem_of_getElem? (i := 601) (by decide +kernel), List.mem_of_getElem? (i := 602) (by decide +kernel)⟩
theorem lw_p7 : lw_okq (⟨"PollMeshes$Span", "hasRowsOnBothSides", "()Z"⟩, 3) := ⟨⟨by decide +kernel, by decide +kernel⟩, List.mem_of_getElem? (i := 317) (by decide +kernel), List.mem_of_getElem? (i := 605) (by decide +kernel), List.mem_of_getElem? (i := 606) (by decide +kernel)⟩
theorem lw_p8 : lw_okq (⟨"PollMeshes$Nearby", "consider", "(LPollMeshes$State;III)V"⟩, 2) := ⟨⟨by decide +kernel, by decide +kernel⟩, List.mem_of_getElem? (i := 303) (by decide +kernel), List.mem_of_getElem? (i := 627) (by decide +kernel), List.mem_of_getElem? (i := 628) (by decide +kernel)⟩
theorem lw_p9 : lw_okq (⟨"PollMeshes$Text", "beginTerm", "(Z)V"⟩, 10) := ⟨⟨by decide +kernel, by decide +kernel⟩, List.mem_of_getElem? (i := 231) (by decide +kernel), List.mem_of_getElem? (i := 670) (by decide +kernel), List.mem_of_getElem? (i := 671) (by decide +kernel)⟩
theorem lw_p10 : lw_okq (⟨"PollMeshes$Text", "scanCharacter", "(III)V"⟩, 10) := ⟨⟨by decide +kernel, by decide +kernel⟩, List.mem_of_getElem? (i := 231) (by decide +kernel), List.mem_of_getElem? (i := 674) (by decide +kernel), List.mem_of_getElem? (i := 675) (by decide +kernel)⟩
theorem lw_p11 : lw_okq (⟨"PollMeshes$Text", "scanLetter", "(III)V"⟩, 10) := ⟨⟨by decide +kernel, by decide +kernel⟩, List.mem_of_getElem? (i := 231) (by decide +kernel), List.mem_of_getElem? (i := 679) (by decide +kernel), List.mem_of_getElem? (i := 680) (by decide +kernel)⟩
theorem lw_p12 : lw_okq (⟨"PollMeshes$Text", "setFault", "(II)V"⟩, 10) := ⟨⟨by decide +kernel, by decide +kernel⟩, List.mem_of_getElem? (i := 231) (by decide +kernel), List.mem_of_getElem? (i := 683) (by decide +kernel), List.mem_of_getElem? (i := 684) (by decide +kernel)⟩
theorem lw_p13 : lw_okq (⟨"PollMeshes$Text", "scanDigit", "(II)V"⟩, 10) := ⟨⟨by decide +kernel, by decide +kernel⟩, List.mem_of_getElem? (i := 231) (by decide +kernel), List.mem_of_getElem? (i := 687) (by decide +kernel), List.mem_of_getElem? (i := 688) (by decide +kernel)⟩
theorem lw_p14 : lw_okq (⟨"PollMeshes$Text", "scanSign", "(IZ)V"⟩, 10) := ⟨⟨by decide +kernel, by decide +kernel⟩, List.mem_of_getElem? (i := 231) (by decide +kernel), List.mem_of_getElem? (i := 691) (by decide +kernel), List.mem_of_getElem? (i := 692) (by decide +kernel)⟩
theorem lw_p15 : lw_okq (⟨"PollMeshes$Text", "termIsEmpty", "()Z"⟩, 10) := ⟨⟨by decide +kernel, by decide +kernel⟩, List.mem_of_getElem? (i := 231) (by decide +kernel), List.mem_of_getElem? (i := 695) (by decide +kernel), List.mem_of_getElem? (i := 696) (by decide +kernel)⟩
def lw_privs_1 : List (MethodName × Nat) := [(⟨"PollMeshes$Directions", "addAlong", "(II)V"⟩, 3), (⟨"PollMeshes$Search", "moveTo", "(III)V"⟩, 9), (⟨"PollMeshes$Trials", "insert", "(IJJ)V"⟩, 6), (⟨"PollMeshes", "boundOf", "(I)I"⟩, 8), (⟨"PollMeshes$Span", "fill", "(LPollMeshes$Directions;I)V"⟩, 3), (⟨"PollMeshes$Span", "addAlong", "(II)V"⟩, 3), (⟨"PollMeshes$Span", "findNormal", "(II)Z"⟩, 3), (⟨"PollMeshes$Span", "hasRowsOnBothSides", "()Z"⟩, 3), (⟨"PollMeshes$Nearby", "consider", "(LPollMeshes$State;III)V"⟩, 2), (⟨"PollMeshes$Text", "beginTerm", "(Z)V"⟩, 10), (⟨"PollMeshes$Text", "scanCharacter", "(III)V"⟩, 10), (⟨"PollMeshes$Text", "scanLetter", "(III)V"⟩, 10), (⟨"PollMeshes$Text", "setFault", "(II)V"⟩, 10), (⟨"PollMeshes$Text", "scanDigit", "(II)V"⟩, 10), (⟨"PollMeshes$Text", "scanSign", "(IZ)V"⟩, 10), (⟨"PollMeshes$Text", "termIsEmpty", "()Z"⟩, 10)]
theorem lw_r1 : ∀ q ∈ lw_privs_1, lw_okq q := List.forall_mem_cons.mpr ⟨lw_p0, List.forall_mem_cons.mpr ⟨lw_p1, List.forall_mem_cons.mpr ⟨lw_p2, List.forall_mem_cons.mpr ⟨lw_p3, List.forall_mem_cons.mpr ⟨lw_p4, List.forall_mem_cons.mpr ⟨lw_p5, List.forall_mem_cons.mpr ⟨lw_p6, List.forall_mem_cons.mpr ⟨lw_p7, List.forall_mem_cons.mpr ⟨lw_p8, List.forall_mem_cons.mpr ⟨lw_p9, List.forall_mem_cons.mpr ⟨lw_p10, List.forall_mem_cons.mpr ⟨lw_p11, List.forall_mem_cons.mpr ⟨lw_p12, List.forall_mem_cons.mpr ⟨lw_p13, List.forall_mem_cons.mpr ⟨lw_p14, List.forall_mem_cons.mpr ⟨lw_p15, fun _ h => absurd h List.not_mem_nil⟩⟩⟩⟩⟩⟩⟩⟩⟩⟩⟩⟩⟩⟩⟩⟩
theorem lw_p16 : lw_okq (⟨"PollMeshes$Text", "endTerm", "()V"⟩, 10) := ⟨⟨by decide +kernel, by decide +kernel⟩, List.mem_of_getElem? (i := 231) (by decide +kernel), List.mem_of_getElem? (i := 699) (by decide +kernel), List.mem_of_getElem? (i := 700) (by decide +kernel)⟩
theorem lw_p17 : lw_okq (⟨"PollMeshes$Text", "scanEnd", "()V"⟩, 10) := ⟨⟨by decide +kernel, by decide +kernel⟩, List.mem_of_getElem? (i := 231) (by decide +kernel), List.mem_of_getElem? (i := 704) (by decide +kernel), List.mem_of_getElem? (i := 705) (by decide +kernel)⟩
theorem lw_p18 : lw_okq (⟨"PollMeshesModel", "begin", "(I)V"⟩, 15) := ⟨⟨by decide +kernel, by decide +kernel⟩, List.mem_of_getElem? (i := 713) (by decide +kernel), List.mem_of_getElem? (i := 719) (by decide +kernel), List.mem_of_getElem? (i := 720) (by decide +kernel)⟩
theorem lw_p19 : lw_okq (⟨"PollMeshesModel", "record", "()V"⟩, 15) := ⟨⟨by decide +kernel, by decide +kernel⟩, List.mem_of_getElem? (i := 713) (by decide +kernel), List.mem_of_getElem? (i := 783) (by decide +kernel), List.mem_of_getElem? (i := 784) (by decide +kernel)⟩
theorem lw_p20 : lw_okq (⟨"PollMeshesModel", "arePlace", "(III)Z"⟩, 15) := ⟨⟨by decide +kernel, by decide +kernel⟩, List.mem_of_getElem? (i := 713) (by decide +kernel), List.mem_of_getElem? (i := 791) (by decide +kernel), List.mem_of_getElem? (i := 792) (by decide +kernel)⟩
theorem lw_p21 : lw_okq (⟨"PollMeshesModel", "areOfVariables", "(III)Z"⟩, 15) := ⟨⟨by decide +kernel, by decide +kernel⟩, List.mem_of_getElem? (i := 713) (by decide +kernel), List.mem_of_getElem? (i := 798) (by decide +kernel), List.mem_of_getElem? (i := 799) (by decide +kernel)⟩
theorem lw_p22 : lw_okq (⟨"PollMeshesModel", "valueAt", "(IIIZ)J"⟩, 15) := ⟨⟨by decide +kernel, by decide +kernel⟩, List.mem_of_getElem? (i := 713) (by decide +kernel), List.mem_of_getElem? (i := 803) (by decide +kernel), List.mem_of_getElem? (i := 804) (by decide +kernel)⟩
theorem lw_p23 : lw_okq (⟨"PollMeshesModel", "termMany", "()I"⟩, 15) := ⟨⟨by decide +kernel, by decide +kernel⟩, List.mem_of_getElem? (i := 713) (by decide +kernel), List.mem_of_getElem? (i := 820) (by decide +kernel), List.mem_of_getElem? (i := 821) (by decide +kernel)⟩
theorem lw_p24 : lw_okq (⟨"PollMeshesModel", "putTerm", "(IIIII)V"⟩, 15) := ⟨⟨by decide +kernel, by decide +kernel⟩, List.mem_of_getElem? (i := 713) (by decide +kernel), List.mem_of_getElem? (i := 825) (by decide +kernel), List.mem_of_getElem? (i := 826) (by decide +kernel)⟩
theorem lw_p25 : lw_okq (⟨"PollMeshesModel", "oneMore", "(I)I"⟩, 15) := ⟨⟨by decide +kernel, by decide +kernel⟩, List.mem_of_getElem? (i := 713) (by decide +kernel), List.mem_of_getElem? (i := 829) (by decide +kernel), List.mem_of_getElem? (i := 830) (by decide +kernel)⟩
theorem lw_p26 : lw_okq (⟨"PollMeshesModel", "isVariable", "(I)Z"⟩, 15) := ⟨⟨by decide +kernel, by decide +kernel⟩, List.mem_of_getElem? (i := 713) (by decide +kernel), List.mem_of_getElem? (i := 841) (by decide +kernel), List.mem_of_getElem? (i := 842) (by decide +kernel)⟩
theorem lw_p27 : lw_okq (⟨"PollMeshesModel", "isHereAllowed", "()Z"⟩, 15) := ⟨⟨by decide +kernel, by decide +kernel⟩, List.mem_of_getElem? (i := 713) (by decide +kernel), List.mem_of_getElem? (i := 845) (by decide +kernel), List.mem_of_getElem? (i := 846) (by decide +kernel)⟩
theorem lw_p28 : lw_okq (⟨"PollMeshesModel", "isAllowed", "(III)Z"⟩, 15) := ⟨⟨by decide +kernel, by decide +kernel⟩, List.mem_of_getElem? (i := 713) (by decide +kernel), List.mem_of_getElem? (i := 849) (by decide +kernel), List.mem_of_getElem? (i := 850) (by decide +kernel)⟩
theorem lw_p29 : lw_okq (⟨"PollMeshesModel", "directionMany", "()I"⟩, 15) := ⟨⟨by decide +kernel, by decide +kernel⟩, List.mem_of_getElem? (i := 713) (by decide +kernel), List.mem_of_getElem? (i := 857) (by decide +kernel), List.mem_of_getElem? (i := 858) (by decide +kernel)⟩
theorem lw_p30 : lw_okq (⟨"PollMeshesModel", "step", "(II)I"⟩, 15) := ⟨⟨by decide +kernel, by decide +kernel⟩, List.mem_of_getElem? (i := 713) (by decide +kernel), List.mem_of_getElem? (i := 861) (by decide +kernel), List.mem_of_getElem? (i := 862) (by decide +kernel)⟩
theorem lw_p31 : lw_okq (⟨"PollMeshesModel", "putDirection", "(IIII)V"⟩, 15) := ⟨⟨by decide +kernel, by decide +kernel⟩, List.mem_of_getElem? (i := 713) (by decide +kernel), List.mem_of_getElem? (i := 865) (by decide +kernel), List.mem_of_getElem? (i := 866) (by decide +kernel)⟩
def lw_privs_2 : List (MethodName × Nat) := [(⟨"PollMeshes$Text", "endTerm", "()V"⟩, 10), (⟨"PollMeshes$Text", "scanEnd", "()V"⟩, 10), (⟨"PollMeshesModel", "begin", "(I)V"⟩, 15), (⟨"PollMeshesModel", "record", "()V"⟩, 15), (⟨"PollMeshesModel", "arePlace", "(III)Z"⟩, 15), (⟨"PollMeshesModel", "areOfVariables", "(III)Z"⟩, 15), (⟨"PollMeshesModel", "valueAt", "(IIIZ)J"⟩, 15), (⟨"PollMeshesModel", "termMany", "()I"⟩, 15), (⟨"PollMeshesModel", "putTerm", "(IIIII)V"⟩, 15), (⟨"PollMeshesModel", "oneMore", "(I)I"⟩, 15), (⟨"PollMeshesModel", "isVariable", "(I)Z"⟩, 15), (⟨"PollMeshesModel", "isHereAllowed", "()Z"⟩, 15), (⟨"PollMeshesModel", "isAllowed", "(III)Z"⟩, 15), (⟨"PollMeshesModel", "directionMany", "()I"⟩, 15), (⟨"PollMeshesModel", "step", "(II)I"⟩, 15), (⟨"PollMeshesModel", "putDirection", "(IIII)V"⟩, 15)]
theorem lw_r2 : ∀ q ∈ lw_privs_2, lw_okq q := List.forall_mem_cons.mpr ⟨lw_p16, List.forall_mem_cons.mpr ⟨lw_p17, List.forall_mem_cons.mpr ⟨lw_p18, List.forall_mem_cons.mpr ⟨lw_p19, List.forall_mem_cons.mpr ⟨lw_p20, List.forall_mem_cons.mpr ⟨lw_p21, List.forall_mem_cons.mpr ⟨lw_p22, List.forall_mem_cons.mpr ⟨lw_p23, List.forall_mem_cons.mpr ⟨lw_p24, List.forall_mem_cons.mpr ⟨lw_p25, List.forall_mem_cons.mpr ⟨lw_p26, List.forall_mem_cons.mpr ⟨lw_p27, List.forall_mem_cons.mpr ⟨lw_p28, List.forall_mem_cons.mpr ⟨lw_p29, List.forall_mem_cons.mpr ⟨lw_p30, List.forall_mem_cons.mpr ⟨lw_p31, fun _ h => absurd h List.not_mem_nil⟩⟩⟩⟩⟩⟩⟩⟩⟩⟩⟩⟩⟩⟩⟩⟩
theorem lw_p32 : lw_okq (⟨"PollMeshesModel", "clearSearch", "(I)V"⟩, 15) := ⟨⟨by decide +kernel, by decide +kernel⟩, List.mem_of_getElem? (i := 713) (by decide +kernel), List.mem_of_getElem? (i := 877) (by decide +kernel), List.mem_of_getElem? (i := 878) (by decide +kernel)⟩
theorem lw_p33 : lw_okq (⟨"PollMeshesModel", "putPlace", "(III)V"⟩, 15) := ⟨⟨by decide +kernel, by decide +kernel⟩, List.mem_of_getElem? (i := 713) (by decide +kernel), List.mem_of_getElem? (i := 881) (by decide +kernel), List.mem_of_getElem? (i := 882) (by decide +kernel)⟩
theorem lw_p34 : lw_okq (⟨"PollMeshesModel", "canPoll", "()Z"⟩, 15) := ⟨⟨by decide +kernel, by decide +kernel⟩, List.mem_of_getElem? (i := 713) (by decide +kernel), List.mem_of_getElem? (i := 893) (by decide +kernel), List.mem_of_getElem? (i := 894) (by decide +kernel)⟩
theorem lw_p35 : lw_okq (⟨"PollMeshesModel", "pollOnce", "()I"⟩, 15) := ⟨⟨by decide +kernel, by decide +kernel⟩, List.mem_of_getElem? (i := 713) (by decide +kernel), List.mem_of_getElem? (i := 897) (by decide +kernel), List.mem_of_getElem? (i := 898) (by decide +kernel)⟩
theorem lw_p36 : lw_okq (⟨"PollMeshesModel", "layRow", "()V"⟩, 15) := ⟨⟨by decide +kernel, by decide +kernel⟩, List.mem_of_getElem? (i := 713) (by decide +kernel), List.mem_of_getElem? (i := 901) (by decide +kernel), List.mem_of_getElem? (i := 902) (by decide +kernel)⟩
theorem lw_p37 : lw_okq (⟨"PollMeshesModel", "isTrialAllowed", "(II)Z"⟩, 15) := ⟨⟨by decide +kernel, by decide +kernel⟩, List.mem_of_getElem? (i := 713) (by decide +kernel), List.mem_of_getElem? (i := 905) (by decide +kernel), List.mem_of_getElem? (i := 906) (by decide +kernel)⟩
theorem lw_p38 : lw_okq (⟨"PollMeshesModel", "trialAt", "(III)I"⟩, 15) := ⟨⟨by decide +kernel, by decide +kernel⟩, List.mem_of_getElem? (i := 713) (by decide +kernel), List.mem_of_getElem? (i := 909) (by decide +kernel), List.mem_of_getElem? (i := 910) (by decide +kernel)⟩
theorem lw_p39 : lw_okq (⟨"PollMeshesModel", "isAhead", "(III)Z"⟩, 15) := ⟨⟨by decide +kernel, by decide +kernel⟩, List.mem_of_getElem? (i := 713) (by decide +kernel), List.mem_of_getElem? (i := 913) (by decide +kernel), List.mem_of_getElem? (i := 914) (by decide +kernel)⟩
theorem lw_p40 : lw_okq (⟨"PollMeshesModel", "trialValue", "(IIZ)J"⟩, 15) := ⟨⟨by decide +kernel, by decide +kernel⟩, List.mem_of_getElem? (i := 713) (by decide +kernel), List.mem_of_getElem? (i := 917) (by decide +kernel), List.mem_of_getElem? (i := 918) (by decide +kernel)⟩
theorem lw_p41 : lw_okq (⟨"PollMeshesModel", "valueHere", "()J"⟩, 15) := ⟨⟨by decide +kernel, by decide +kernel⟩, List.mem_of_getElem? (i := 713) (by decide +kernel), List.mem_of_getElem? (i := 921) (by decide +kernel), List.mem_of_getElem? (i := 922) (by decide +kernel)⟩
theorem lw_p42 : lw_okq (⟨"PollMeshesModel", "take", "(II)V"⟩, 15) := ⟨⟨by decide +kernel, by decide +kernel⟩, List.mem_of_getElem? (i := 713) (by decide +kernel), List.mem_of_getElem? (i := 925) (by decide +kernel), List.mem_of_getElem? (i := 926) (by decide +kernel)⟩
theorem lw_p43 : lw_okq (⟨"PollMeshesModel", "leave", "()V"⟩, 15) := ⟨⟨by decide +kernel, by decide +kernel⟩, List.mem_of_getElem? (i := 713) (by decide +kernel), List.mem_of_getElem? (i := 929) (by decide +kernel), List.mem_of_getElem? (i := 930) (by decide +kernel)⟩
theorem lw_p44 : lw_okq (⟨"PollMeshesModel", "isBarredBoth", "(III)Z"⟩, 15) := ⟨⟨by decide +kernel, by decide +kernel⟩, List.mem_of_getElem? (i := 713) (by decide +kernel), List.mem_of_getElem? (i := 966) (by decide +kernel), List.mem_of_getElem? (i := 967) (by decide +kernel)⟩
theorem lw_p45 : lw_okq (⟨"PollMeshesModel", "isBarred", "(III)Z"⟩, 15) := ⟨⟨by decide +kernel, by decide +kernel⟩, List.mem_of_getElem? (i := 713) (by decide +kernel), List.mem_of_getElem? (i := 970) (by decide +kernel), List.mem_of_getElem? (i := 971) (by decide +kernel)⟩
theorem lw_p46 : lw_okq (⟨"PollMeshesModel", "spanTwo", "()Z"⟩, 15) := ⟨⟨by decide +kernel, by decide +kernel⟩, List.mem_of_getElem? (i := 713) (by decide +kernel), List.mem_of_getElem? (i := 974) (by decide +kernel), List.mem_of_getElem? (i := 975) (by decide +kernel)⟩
theorem lw_p47 : lw_okq (⟨"PollMeshesModel", "spanThree", "()Z"⟩, 15) := ⟨⟨by decide +kernel, by decide +kernel⟩, List.mem_of_getElem? (i := 713) (by decide +kernel), List.mem_of_getElem? (i := 978) (by decide +kernel), List.mem_of_getElem? (i := 979) (by decide +kernel)⟩
def lw_privs_3 : List (MethodName × Nat) := [(⟨"PollMeshesModel", "clearSearch", "(I)V"⟩, 15), (⟨"PollMeshesModel", "putPlace", "(III)V"⟩, 15), (⟨"PollMeshesModel", "canPoll", "()Z"⟩, 15), (⟨"PollMeshesModel", "pollOnce", "()I"⟩, 15), (⟨"PollMeshesModel", "layRow", "()V"⟩, 15), (⟨"PollMeshesModel", "isTrialAllowed", "(II)Z"⟩, 15), (⟨"PollMeshesModel", "trialAt", "(III)I"⟩, 15), (⟨"PollMeshesModel", "isAhead", "(III)Z"⟩, 15), (⟨"PollMeshesModel", "trialValue", "(IIZ)J"⟩, 15), (⟨"PollMeshesModel", "valueHere", "()J"⟩, 15), (⟨"PollMeshesModel", "take", "(II)V"⟩, 15), (⟨"PollMeshesModel", "leave", "()V"⟩, 15), (⟨"PollMeshesModel", "isBarredBoth", "(III)Z"⟩, 15), (⟨"PollMeshesModel", "isBarred", "(III)Z"⟩, 15), (⟨"PollMeshesModel", "spanTwo", "()Z"⟩, 15), (⟨"PollMeshesModel", "spanThree", "()Z"⟩, 15)]
theorem lw_r3 : ∀ q ∈ lw_privs_3, lw_okq q := List.forall_mem_cons.mpr ⟨lw_p32, List.forall_mem_cons.mpr ⟨lw_p33, List.forall_mem_cons.mpr ⟨lw_p34, List.forall_mem_cons.mpr ⟨lw_p35, List.forall_mem_cons.mpr ⟨lw_p36, List.forall_mem_cons.mpr ⟨lw_p37, List.forall_mem_cons.mpr ⟨lw_p38, List.forall_mem_cons.mpr ⟨lw_p39, List.forall_mem_cons.mpr ⟨lw_p40, List.forall_mem_cons.mpr ⟨lw_p41, List.forall_mem_cons.mpr ⟨lw_p42, List.forall_mem_cons.mpr ⟨lw_p43, List.forall_mem_cons.mpr ⟨lw_p44, List.forall_mem_cons.mpr ⟨lw_p45, List.forall_mem_cons.mpr ⟨lw_p46, List.forall_mem_cons.mpr ⟨lw_p47, fun _ h => absurd h List.not_mem_nil⟩⟩⟩⟩⟩⟩⟩⟩⟩⟩⟩⟩⟩⟩⟩⟩
theorem lw_p48 : lw_okq (⟨"PollMeshesModel", "layAround", "(I)V"⟩, 15) := ⟨⟨by decide +kernel, by decide +kernel⟩, List.mem_of_getElem? (i := 713) (by decide +kernel), List.mem_of_getElem? (i := 990) (by decide +kernel), List.mem_of_getElem? (i := 991) (by decide +kernel)⟩
theorem lw_p49 : lw_okq (⟨"PollMeshesModel", "readText", "()V"⟩, 15) := ⟨⟨by decide +kernel, by decide +kernel⟩, List.mem_of_getElem? (i := 713) (by decide +kernel), List.mem_of_getElem? (i := 1006) (by decide +kernel), List.mem_of_getElem? (i := 1007) (by decide +kernel)⟩
theorem lw_p50 : lw_okq (⟨"PollMeshesModel", "letter", "(I)I"⟩, 15) := ⟨⟨by decide +kernel, by decide +kernel⟩, List.mem_of_getElem? (i := 713) (by decide +kernel), List.mem_of_getElem? (i := 1010) (by decide +kernel), List.mem_of_getElem? (i := 1011) (by decide +kernel)⟩
theorem lw_p51 : lw_okq (⟨"PollMeshesModel", "readTerm", "(Z)V"⟩, 15) := ⟨⟨by decide +kernel, by decide +kernel⟩, List.mem_of_getElem? (i := 713) (by decide +kernel), List.mem_of_getElem? (i := 1014) (by decide +kernel), List.mem_of_getElem? (i := 1015) (by decide +kernel)⟩
theorem lw_p52 : lw_okq (⟨"PollMeshesModel", "isDigit", "(I)Z"⟩, 15) := ⟨⟨by decide +kernel, by decide +kernel⟩, List.mem_of_getElem? (i := 713) (by decide +kernel), List.mem_of_getElem? (i := 1018) (by decide +kernel), List.mem_of_getElem? (i := 1019) (by decide +kernel)⟩
theorem lw_p53 : lw_okq (⟨"PollMeshesModel", "fail", "(I)V"⟩, 15) := ⟨⟨by decide +kernel, by decide +kernel⟩, List.mem_of_getElem? (i := 713) (by decide +kernel), List.mem_of_getElem? (i := 1022) (by decide +kernel), List.mem_of_getElem? (i := 1023) (by decide +kernel)⟩
theorem lw_p54 : lw_okq (⟨"PollMeshesModel", "readNumber", "()I"⟩, 15) := ⟨⟨by decide +kernel, by decide +kernel⟩, List.mem_of_getElem? (i := 713) (by decide +kernel), List.mem_of_getElem? (i := 1026) (by decide +kernel), List.mem_of_getElem? (i := 1027) (by decide +kernel)⟩
theorem lw_p55 : lw_okq (⟨"PollMeshesModel", "readLetters", "(I)V"⟩, 15) := ⟨⟨by decide +kernel, by decide +kernel⟩, List.mem_of_getElem? (i := 713) (by decide +kernel), List.mem_of_getElem? (i := 1030) (by decide +kernel), List.mem_of_getElem? (i := 1031) (by decide +kernel)⟩
def lw_privs_4 : List (MethodName × Nat) := [(⟨"PollMeshesModel", "layAround", "(I)V"⟩, 15), (⟨"PollMeshesModel", "readText", "()V"⟩, 15), (⟨"PollMeshesModel", "letter", "(I)I"⟩, 15), (⟨"PollMeshesModel", "readTerm", "(Z)V"⟩, 15), (⟨"PollMeshesModel", "isDigit", "(I)Z"⟩, 15), (⟨"PollMeshesModel", "fail", "(I)V"⟩, 15), (⟨"PollMeshesModel", "readNumber", "()I"⟩, 15), (⟨"PollMeshesModel", "readLetters", "(I)V"⟩, 15)]
theorem lw_r4 : ∀ q ∈ lw_privs_4, lw_okq q := List.forall_mem_cons.mpr ⟨lw_p48, List.forall_mem_cons.mpr ⟨lw_p49, List.forall_mem_cons.mpr ⟨lw_p50, List.forall_mem_cons.mpr ⟨lw_p51, List.forall_mem_cons.mpr ⟨lw_p52, List.forall_mem_cons.mpr ⟨lw_p53, List.forall_mem_cons.mpr ⟨lw_p54, List.forall_mem_cons.mpr ⟨lw_p55, fun _ h => absurd h List.not_mem_nil⟩⟩⟩⟩⟩⟩⟩⟩
def lw_privs : List (MethodName × Nat) := lw_privs_1 ++ (lw_privs_2 ++ (lw_privs_3 ++ (lw_privs_4)))
def lw_tbl : List Cond := k2_sels lw_privs ++ tables_1
theorem lw_privs_ok : ∀ q ∈ lw_privs, lw_okq q := by
  show ∀ q ∈ lw_privs_1 ++ (lw_privs_2 ++ (lw_privs_3 ++ (lw_privs_4))), lw_okq q
  exact List.forall_mem_append.mpr ⟨lw_r1, List.forall_mem_append.mpr ⟨lw_r2, List.forall_mem_append.mpr ⟨lw_r3, lw_r4⟩⟩⟩
/-! ===== BEGIN words of one list among another's, by their places ===== -/
theorem goodIn_r {big : List Cond} (ws : List Cond) (ps : List Nat) (hp : ws = ps.filterMap (fun i => big[i]?)) (h : ws.all goodWord = true) : GoodIn big ws := by
  intro w hw
  have h1 := List.all_eq_true.mp h w hw
  rw [hp] at hw
  obtain ⟨i, -, hi⟩ := List.mem_filterMap.mp hw
  have hm : w ∈ big := by first | exact List.mem_of_getElem? hi | exact List.getElem?_mem hi
  exact ⟨hm, good_of_word h1⟩
theorem goodIn_app {big a b : List Cond} (ha : GoodIn big a) (hb : GoodIn big b) : GoodIn big (a ++ b) := fun w h => (List.mem_append.mp h).elim (ha w) (hb w)
theorem goodIn_ca {big a b : List Cond} {c : Cond} (ha : GoodIn big (c :: a)) (hb : GoodIn big b) : GoodIn big (c :: (a ++ b)) := fun w h => (List.mem_cons.mp h).elim (fun e => ha w (List.mem_cons.mpr (Or.inl e))) (fun h => (List.mem_append.mp h).elim (fun h => ha w (List.mem_cons.mpr (Or.inr h))) (hb w))
theorem goodIn_sub {big ws : List Cond} (hm : ∀ w ∈ ws, w ∈ big) (h : ws.all goodWord = true) : GoodIn big ws := fun w hw => ⟨hm w hw, good_of_word (List.all_eq_true.mp h w hw)⟩
/-! ===== END ===== -/

/-! ===== BEGIN printed: names, fields, word lists, decode rows ===== -/
def RX0 : String := "PollMeshes$Bounds"
def TX0 : u_T := fun k => match k with
  | 0 => ("PollMeshes$Bounds", "low", "[I", true)
  | _ => ("PollMeshes$Bounds", "high", "[I", true)
def tyX0 : Nat → FieldType := fun k => match k with
  | 0 => .array .int
  | _ => .array .int
abbrev wsX00 : List Cond := u_ws RX0 TX0 2
theorem nmX0 : ∀ a, a < 2 → ∀ b, b < 2 → a ≠ b → (TX0 a).2.1 ≠ (TX0 b).2.1 := by decide +kernel
theorem tyX0_ok : ∀ k, k < 2 → parseFieldDescriptor (TX0 k).2.2.1 = some (tyX0 k) := by decide +kernel
abbrev cX0_init : ByteArray := prog_2_method_1_code
def yX0_init : MethodName := ⟨RX0, "<init>", "()V"⟩
abbrev cX0_reset : ByteArray := prog_2_method_2_code
def yX0_reset : MethodName := ⟨RX0, "reset", "()V"⟩
abbrev cX0_copyFrom : ByteArray := prog_2_method_3_code
def yX0_copyFrom : MethodName := ⟨RX0, "copyFrom", "(LPollMeshes$Bounds;)V"⟩
abbrev cX0_allow : ByteArray := prog_2_method_4_code
def yX0_allow : MethodName := ⟨RX0, "allow", "(III)Z"⟩
def RX1 : String := "PollMeshes$Directions"
def TX1 : u_T := fun k => match k with
  | 0 => ("PollMeshes$Directions", "held", "I", false)
  | 1 => ("PollMeshes$Directions", "steps", "[I", true)
  | _ => ("PollMeshes$Directions", "taken", "[I", true)
def tyX1 : Nat → FieldType := fun k => match k with
  | 0 => .int
  | 1 => .array .int
  | _ => .array .int
abbrev wsX10 : List Cond := u_ws RX1 TX1 3
theorem nmX1 : ∀ a, a < 3 → ∀ b, b < 3 → a ≠ b → (TX1 a).2.1 ≠ (TX1 b).2.1 := by decide +kernel
theorem tyX1_ok : ∀ k, k < 3 → parseFieldDescriptor (TX1 k).2.2.1 = some (tyX1 k) := by decide +kernel
abbrev cX1_init : ByteArray := prog_3_method_1_code
def yX1_init : MethodName := ⟨RX1, "<init>", "()V"⟩
abbrev cX1_reset : ByteArray := prog_3_method_2_code
def yX1_reset : MethodName := ⟨RX1, "reset", "(I)V"⟩
abbrev cX1_addAlong : ByteArray := prog_3_method_3_code
def yX1_addAlong : MethodName := ⟨RX1, "addAlong", "(II)V"⟩
abbrev cX1_copyFrom : ByteArray := prog_3_method_4_code
def yX1_copyFrom : MethodName := ⟨RX1, "copyFrom", "(LPollMeshes$Directions;)V"⟩
abbrev cX1_has : ByteArray := prog_3_method_5_code
def yX1_has : MethodName := ⟨RX1, "has", "(III)Z"⟩
abbrev cX1_add : ByteArray := prog_3_method_6_code
def yX1_add : MethodName := ⟨RX1, "add", "(III)V"⟩
abbrev cX1_remove : ByteArray := prog_3_method_7_code
def yX1_remove : MethodName := ⟨RX1, "remove", "(I)V"⟩
abbrev cX1_forgetTaken : ByteArray := prog_3_method_8_code
def yX1_forgetTaken : MethodName := ⟨RX1, "forgetTaken", "()V"⟩
def RX2 : String := "PollMeshes$History"
def TX2 : u_T := fun k => match k with
  | 0 => ("PollMeshes$History", "held", "I", false)
  | 1 => ("PollMeshes$History", "first", "LPollMeshes$State;", true)
  | 2 => ("PollMeshes$History", "second", "LPollMeshes$State;", true)
  | 3 => ("PollMeshes$History", "third", "LPollMeshes$State;", true)
  | _ => ("PollMeshes$History", "fourth", "LPollMeshes$State;", true)
def tyX2 : Nat → FieldType := fun k => match k with
  | 0 => .int
  | 1 => .object "PollMeshes$State"
  | 2 => .object "PollMeshes$State"
  | 3 => .object "PollMeshes$State"
  | _ => .object "PollMeshes$State"
abbrev wsX20 : List Cond := u_ws RX2 TX2 5
theorem nmX2 : ∀ a, a < 5 → ∀ b, b < 5 → a ≠ b → (TX2 a).2.1 ≠ (TX2 b).2.1 := by decide +kernel
theorem tyX2_ok : ∀ k, k < 5 → parseFieldDescriptor (TX2 k).2.2.1 = some (tyX2 k) := by decide +kernel
abbrev cX2_init : ByteArray := prog_4_method_1_code
def yX2_init : MethodName := ⟨RX2, "<init>", "()V"⟩
abbrev cX2_push : ByteArray := prog_4_method_2_code
def yX2_push : MethodName := ⟨RX2, "push", "(LPollMeshes$State;)V"⟩
abbrev cX2_giveBack : ByteArray := prog_4_method_3_code
def yX2_giveBack : MethodName := ⟨RX2, "giveBack", "(LPollMeshes$State;)V"⟩
def RX3 : String := "PollMeshes$Nearby"
def TX3 : u_T := fun k => match k with
  | 0 => ("PollMeshes$Nearby", "best", "[I", true)
  | _ => ("PollMeshes$Nearby", "least", "J", false)
def tyX3 : Nat → FieldType := fun k => match k with
  | 0 => .array .int
  | _ => .long
abbrev wsX30 : List Cond := u_ws RX3 TX3 2
theorem nmX3 : ∀ a, a < 2 → ∀ b, b < 2 → a ≠ b → (TX3 a).2.1 ≠ (TX3 b).2.1 := by decide +kernel
theorem tyX3_ok : ∀ k, k < 2 → parseFieldDescriptor (TX3 k).2.2.1 = some (tyX3 k) := by decide +kernel
abbrev cX3_init : ByteArray := prog_5_method_1_code
def yX3_init : MethodName := ⟨RX3, "<init>", "()V"⟩
abbrev cX3_findBest : ByteArray := prog_5_method_2_code
def yX3_findBest : MethodName := ⟨RX3, "findBest", "(LPollMeshes$State;I)V"⟩
abbrev cX3_consider : ByteArray := prog_5_method_3_code
def yX3_consider : MethodName := ⟨RX3, "consider", "(LPollMeshes$State;III)V"⟩
def RX4 : String := "PollMeshes$Search"
def TX4 : u_T := fun k => match k with
  | 0 => ("PollMeshes$Search", "place", "[I", true)
  | 1 => ("PollMeshes$Search", "size", "I", false)
  | 2 => ("PollMeshes$Search", "polls", "I", false)
  | 3 => ("PollMeshes$Search", "successes", "I", false)
  | 4 => ("PollMeshes$Search", "looked", "I", false)
  | 5 => ("PollMeshes$Search", "latest", "I", false)
  | 6 => ("PollMeshes$Search", "leftHeld", "I", false)
  | 7 => ("PollMeshes$Search", "left", "[I", true)
  | _ => ("PollMeshes$Search", "ended", "Z", false)
def tyX4 : Nat → FieldType := fun k => match k with
  | 0 => .array .int
  | 1 => .int
  | 2 => .int
  | 3 => .int
  | 4 => .int
  | 5 => .int
  | 6 => .int
  | 7 => .array .int
  | _ => .boolean
abbrev wsX40 : List Cond := u_ws RX4 TX4 9
theorem nmX4 : ∀ a, a < 9 → ∀ b, b < 9 → a ≠ b → (TX4 a).2.1 ≠ (TX4 b).2.1 := by decide +kernel
theorem tyX4_ok : ∀ k, k < 9 → parseFieldDescriptor (TX4 k).2.2.1 = some (tyX4 k) := by decide +kernel
abbrev cX4_init : ByteArray := prog_6_method_1_code
def yX4_init : MethodName := ⟨RX4, "<init>", "()V"⟩
abbrev cX4_begin : ByteArray := prog_6_method_2_code
def yX4_begin : MethodName := ⟨RX4, "begin", "(IIII)V"⟩
abbrev cX4_copyFrom : ByteArray := prog_6_method_3_code
def yX4_copyFrom : MethodName := ⟨RX4, "copyFrom", "(LPollMeshes$Search;)V"⟩
abbrev cX4_moveTo : ByteArray := prog_6_method_4_code
def yX4_moveTo : MethodName := ⟨RX4, "moveTo", "(III)V"⟩
abbrev cX4_forgetDirection : ByteArray := prog_6_method_5_code
def yX4_forgetDirection : MethodName := ⟨RX4, "forgetDirection", "(I)V"⟩
abbrev cX4_succeed : ByteArray := prog_6_method_6_code
def yX4_succeed : MethodName := ⟨RX4, "succeed", "(IIII)V"⟩
abbrev cX4_fail : ByteArray := prog_6_method_7_code
def yX4_fail : MethodName := ⟨RX4, "fail", "()V"⟩
def RX5 : String := "PollMeshes$Span"
def TX5 : u_T := fun k => match k with
  | 0 => ("PollMeshes$Span", "held", "I", false)
  | 1 => ("PollMeshes$Span", "rows", "[I", true)
  | _ => ("PollMeshes$Span", "normal", "[I", true)
def tyX5 : Nat → FieldType := fun k => match k with
  | 0 => .int
  | 1 => .array .int
  | _ => .array .int
abbrev wsX50 : List Cond := u_ws RX5 TX5 3
theorem nmX5 : ∀ a, a < 3 → ∀ b, b < 3 → a ≠ b → (TX5 a).2.1 ≠ (TX5 b).2.1 := by decide +kernel
theorem tyX5_ok : ∀ k, k < 3 → parseFieldDescriptor (TX5 k).2.2.1 = some (tyX5 k) := by decide +kernel
abbrev cX5_init : ByteArray := prog_7_method_1_code
def yX5_init : MethodName := ⟨RX5, "<init>", "()V"⟩
abbrev cX5_isWhole : ByteArray := prog_7_method_2_code
def yX5_isWhole : MethodName := ⟨RX5, "isWhole", "(LPollMeshes$Directions;I)Z"⟩
abbrev cX5_fill : ByteArray := prog_7_method_3_code
def yX5_fill : MethodName := ⟨RX5, "fill", "(LPollMeshes$Directions;I)V"⟩
abbrev cX5_addAlong : ByteArray := prog_7_method_4_code
def yX5_addAlong : MethodName := ⟨RX5, "addAlong", "(II)V"⟩
abbrev cX5_findNormal : ByteArray := prog_7_method_5_code
def yX5_findNormal : MethodName := ⟨RX5, "findNormal", "(II)Z"⟩
abbrev cX5_hasRowsOnBothSides : ByteArray := prog_7_method_6_code
def yX5_hasRowsOnBothSides : MethodName := ⟨RX5, "hasRowsOnBothSides", "()Z"⟩
def RX6 : String := "PollMeshes$State"
def TX6 : u_T := fun k => match k with
  | 0 => ("PollMeshes$State", "dimensions", "I", false)
  | 1 => ("PollMeshes$State", "order", "I", false)
  | 2 => ("PollMeshes$State", "way", "I", false)
  | 3 => ("PollMeshes$State", "terms", "LPollMeshes$Terms;", true)
  | 4 => ("PollMeshes$State", "bounds", "LPollMeshes$Bounds;", true)
  | 5 => ("PollMeshes$State", "directions", "LPollMeshes$Directions;", true)
  | _ => ("PollMeshes$State", "search", "LPollMeshes$Search;", true)
def tyX6 : Nat → FieldType := fun k => match k with
  | 0 => .int
  | 1 => .int
  | 2 => .int
  | 3 => .object "PollMeshes$Terms"
  | 4 => .object "PollMeshes$Bounds"
  | 5 => .object "PollMeshes$Directions"
  | _ => .object "PollMeshes$Search"
abbrev wsX60 : List Cond := u_ws RX6 TX6 7
theorem nmX6 : ∀ a, a < 7 → ∀ b, b < 7 → a ≠ b → (TX6 a).2.1 ≠ (TX6 b).2.1 := by decide +kernel
theorem tyX6_ok : ∀ k, k < 7 → parseFieldDescriptor (TX6 k).2.2.1 = some (tyX6 k) := by decide +kernel
abbrev cX6_init : ByteArray := prog_8_method_1_code
def yX6_init : MethodName := ⟨RX6, "<init>", "()V"⟩
abbrev cX6_reset : ByteArray := prog_8_method_2_code
def yX6_reset : MethodName := ⟨RX6, "reset", "(I)V"⟩
abbrev cX6_copyFrom : ByteArray := prog_8_method_3_code
def yX6_copyFrom : MethodName := ⟨RX6, "copyFrom", "(LPollMeshes$State;)V"⟩
abbrev cX6_hasVariable : ByteArray := prog_8_method_4_code
def yX6_hasVariable : MethodName := ⟨RX6, "hasVariable", "(I)Z"⟩
abbrev cX6_fit : ByteArray := prog_8_method_5_code
def yX6_fit : MethodName := ⟨RX6, "fit", "(IIIII)Z"⟩
abbrev cX6_placeIsAllowed : ByteArray := prog_8_method_6_code
def yX6_placeIsAllowed : MethodName := ⟨RX6, "placeIsAllowed", "()Z"⟩
abbrev cX6_canPoll : ByteArray := prog_8_method_7_code
def yX6_canPoll : MethodName := ⟨RX6, "canPoll", "()Z"⟩
abbrev cX6_valueHere : ByteArray := prog_8_method_8_code
def yX6_valueHere : MethodName := ⟨RX6, "valueHere", "()J"⟩
abbrev cX6_trialNumber : ByteArray := prog_8_method_9_code
def yX6_trialNumber : MethodName := ⟨RX6, "trialNumber", "(III)I"⟩
abbrev cX6_rankOf : ByteArray := prog_8_method_10_code
def yX6_rankOf : MethodName := ⟨RX6, "rankOf", "(IIII)J"⟩
abbrev cX6_pollOnce : ByteArray := prog_8_method_11_code
def yX6_pollOnce : MethodName := ⟨RX6, "pollOnce", "(LPollMeshes$Trials;)I"⟩
def RX7 : String := "PollMeshes$Terms"
def TX7 : u_T := fun k => match k with
  | 0 => ("PollMeshes$Terms", "held", "I", false)
  | 1 => ("PollMeshes$Terms", "factors", "[I", true)
  | _ => ("PollMeshes$Terms", "powers", "[I", true)
def tyX7 : Nat → FieldType := fun k => match k with
  | 0 => .int
  | 1 => .array .int
  | _ => .array .int
abbrev wsX70 : List Cond := u_ws RX7 TX7 3
theorem nmX7 : ∀ a, a < 3 → ∀ b, b < 3 → a ≠ b → (TX7 a).2.1 ≠ (TX7 b).2.1 := by decide +kernel
theorem tyX7_ok : ∀ k, k < 3 → parseFieldDescriptor (TX7 k).2.2.1 = some (tyX7 k) := by decide +kernel
abbrev cX7_init : ByteArray := prog_9_method_1_code
def yX7_init : MethodName := ⟨RX7, "<init>", "()V"⟩
abbrev cX7_copyFrom : ByteArray := prog_9_method_2_code
def yX7_copyFrom : MethodName := ⟨RX7, "copyFrom", "(LPollMeshes$Terms;)V"⟩
abbrev cX7_add : ByteArray := prog_9_method_3_code
def yX7_add : MethodName := ⟨RX7, "add", "(IIII)V"⟩
abbrev cX7_remove : ByteArray := prog_9_method_4_code
def yX7_remove : MethodName := ⟨RX7, "remove", "(I)V"⟩
abbrev cX7_sumAt : ByteArray := prog_9_method_5_code
def yX7_sumAt : MethodName := ⟨RX7, "sumAt", "(IIII)J"⟩
abbrev cX7_raised : ByteArray := prog_9_method_6_code
def yX7_raised : MethodName := ⟨RX7, "raised", "(II)J"⟩
def RX8 : String := "PollMeshes$Text"
def TX8 : u_T := fun k => match k with
  | 0 => ("PollMeshes$Text", "length", "I", false)
  | 1 => ("PollMeshes$Text", "characters", "[I", true)
  | 2 => ("PollMeshes$Text", "found", "LPollMeshes$Terms;", true)
  | 3 => ("PollMeshes$Text", "faultPlace", "I", false)
  | 4 => ("PollMeshes$Text", "faultReason", "I", false)
  | 5 => ("PollMeshes$Text", "negative", "Z", false)
  | 6 => ("PollMeshes$Text", "digits", "I", false)
  | 7 => ("PollMeshes$Text", "number", "I", false)
  | 8 => ("PollMeshes$Text", "letters", "I", false)
  | _ => ("PollMeshes$Text", "powers", "[I", true)
def tyX8 : Nat → FieldType := fun k => match k with
  | 0 => .int
  | 1 => .array .int
  | 2 => .object "PollMeshes$Terms"
  | 3 => .int
  | 4 => .int
  | 5 => .boolean
  | 6 => .int
  | 7 => .int
  | 8 => .int
  | _ => .array .int
abbrev wsX80 : List Cond := u_ws RX8 TX8 10
theorem nmX8 : ∀ a, a < 10 → ∀ b, b < 10 → a ≠ b → (TX8 a).2.1 ≠ (TX8 b).2.1 := by decide +kernel
theorem tyX8_ok : ∀ k, k < 10 → parseFieldDescriptor (TX8 k).2.2.1 = some (tyX8 k) := by decide +kernel
abbrev cX8_init : ByteArray := prog_10_method_1_code
def yX8_init : MethodName := ⟨RX8, "<init>", "()V"⟩
abbrev cX8_append : ByteArray := prog_10_method_2_code
def yX8_append : MethodName := ⟨RX8, "append", "(I)V"⟩
abbrev cX8_isFunction : ByteArray := prog_10_method_3_code
def yX8_isFunction : MethodName := ⟨RX8, "isFunction", "(I)Z"⟩
abbrev cX8_scanCharacter : ByteArray := prog_10_method_4_code
def yX8_scanCharacter : MethodName := ⟨RX8, "scanCharacter", "(III)V"⟩
abbrev cX8_scanLetter : ByteArray := prog_10_method_5_code
def yX8_scanLetter : MethodName := ⟨RX8, "scanLetter", "(III)V"⟩
abbrev cX8_scanDigit : ByteArray := prog_10_method_6_code
def yX8_scanDigit : MethodName := ⟨RX8, "scanDigit", "(II)V"⟩
abbrev cX8_scanSign : ByteArray := prog_10_method_7_code
def yX8_scanSign : MethodName := ⟨RX8, "scanSign", "(IZ)V"⟩
abbrev cX8_scanEnd : ByteArray := prog_10_method_8_code
def yX8_scanEnd : MethodName := ⟨RX8, "scanEnd", "()V"⟩
abbrev cX8_termIsEmpty : ByteArray := prog_10_method_9_code
def yX8_termIsEmpty : MethodName := ⟨RX8, "termIsEmpty", "()Z"⟩
abbrev cX8_beginTerm : ByteArray := prog_10_method_10_code
def yX8_beginTerm : MethodName := ⟨RX8, "beginTerm", "(Z)V"⟩
abbrev cX8_endTerm : ByteArray := prog_10_method_11_code
def yX8_endTerm : MethodName := ⟨RX8, "endTerm", "()V"⟩
abbrev cX8_setFault : ByteArray := prog_10_method_12_code
def yX8_setFault : MethodName := ⟨RX8, "setFault", "(II)V"⟩
def RX9 : String := "PollMeshes$Trials"
def TX9 : u_T := fun k => match k with
  | 0 => ("PollMeshes$Trials", "held", "I", false)
  | 1 => ("PollMeshes$Trials", "directions", "[I", true)
  | 2 => ("PollMeshes$Trials", "ranks", "[J", true)
  | 3 => ("PollMeshes$Trials", "values", "[J", true)
  | 4 => ("PollMeshes$Trials", "valueHere", "J", false)
  | _ => ("PollMeshes$Trials", "looked", "I", false)
def tyX9 : Nat → FieldType := fun k => match k with
  | 0 => .int
  | 1 => .array .int
  | 2 => .array .long
  | 3 => .array .long
  | 4 => .long
  | _ => .int
abbrev wsX90 : List Cond := u_ws RX9 TX9 6
theorem nmX9 : ∀ a, a < 6 → ∀ b, b < 6 → a ≠ b → (TX9 a).2.1 ≠ (TX9 b).2.1 := by decide +kernel
theorem tyX9_ok : ∀ k, k < 6 → parseFieldDescriptor (TX9 k).2.2.1 = some (tyX9 k) := by decide +kernel
abbrev cX9_init : ByteArray := prog_11_method_1_code
def yX9_init : MethodName := ⟨RX9, "<init>", "()V"⟩
abbrev cX9_gather : ByteArray := prog_11_method_2_code
def yX9_gather : MethodName := ⟨RX9, "gather", "(LPollMeshes$State;I)V"⟩
abbrev cX9_insert : ByteArray := prog_11_method_3_code
def yX9_insert : MethodName := ⟨RX9, "insert", "(IJJ)V"⟩
abbrev cX9_isBetter : ByteArray := prog_11_method_4_code
def yX9_isBetter : MethodName := ⟨RX9, "isBetter", "(I)Z"⟩
abbrev cX9_noneIsBetter : ByteArray := prog_11_method_5_code
def yX9_noneIsBetter : MethodName := ⟨RX9, "noneIsBetter", "()Z"⟩
abbrev cX9_chooseBetter : ByteArray := prog_11_method_6_code
def yX9_chooseBetter : MethodName := ⟨RX9, "chooseBetter", "(I)I"⟩
def RX10 : String := "PollMeshes"
def TX10 : u_T := fun k => match k with
  | 0 => ("PollMeshes", "now", "LPollMeshes$State;", true)
  | 1 => ("PollMeshes", "history", "LPollMeshes$History;", true)
  | 2 => ("PollMeshes", "snapshot", "LPollMeshes$State;", true)
  | 3 => ("PollMeshes", "hasSnapshot", "Z", false)
  | 4 => ("PollMeshes", "text", "LPollMeshes$Text;", true)
  | 5 => ("PollMeshes", "trials", "LPollMeshes$Trials;", true)
  | 6 => ("PollMeshes", "nearby", "LPollMeshes$Nearby;", true)
  | _ => ("PollMeshes", "span", "LPollMeshes$Span;", true)
def tyX10 : Nat → FieldType := fun k => match k with
  | 0 => .object "PollMeshes$State"
  | 1 => .object "PollMeshes$History"
  | 2 => .object "PollMeshes$State"
  | 3 => .boolean
  | 4 => .object "PollMeshes$Text"
  | 5 => .object "PollMeshes$Trials"
  | 6 => .object "PollMeshes$Nearby"
  | _ => .object "PollMeshes$Span"
abbrev wsX100 : List Cond := u_ws RX10 TX10 8
theorem nmX10 : ∀ a, a < 8 → ∀ b, b < 8 → a ≠ b → (TX10 a).2.1 ≠ (TX10 b).2.1 := by decide +kernel
theorem tyX10_ok : ∀ k, k < 8 → parseFieldDescriptor (TX10 k).2.2.1 = some (tyX10 k) := by decide +kernel
abbrev cX10_init : ByteArray := prog_1_method_1_code
def yX10_init : MethodName := ⟨RX10, "<init>", "()V"⟩
abbrev cX10_variables : ByteArray := prog_1_method_2_code
def yX10_variables : MethodName := ⟨RX10, "variables", "(I)I"⟩
abbrev cX10_term : ByteArray := prog_1_method_3_code
def yX10_term : MethodName := ⟨RX10, "term", "(IIII)I"⟩
abbrev cX10_dropTerm : ByteArray := prog_1_method_4_code
def yX10_dropTerm : MethodName := ⟨RX10, "dropTerm", "(I)I"⟩
abbrev cX10_bound : ByteArray := prog_1_method_5_code
def yX10_bound : MethodName := ⟨RX10, "bound", "(III)I"⟩
abbrev cX10_direction : ByteArray := prog_1_method_6_code
def yX10_direction : MethodName := ⟨RX10, "direction", "(III)I"⟩
abbrev cX10_dropDirection : ByteArray := prog_1_method_7_code
def yX10_dropDirection : MethodName := ⟨RX10, "dropDirection", "(I)I"⟩
abbrev cX10_start : ByteArray := prog_1_method_8_code
def yX10_start : MethodName := ⟨RX10, "start", "(IIII)I"⟩
abbrev cX10_order : ByteArray := prog_1_method_9_code
def yX10_order : MethodName := ⟨RX10, "order", "(II)I"⟩
abbrev cX10_poll : ByteArray := prog_1_method_10_code
def yX10_poll : MethodName := ⟨RX10, "poll", "()I"⟩
abbrev cX10_run : ByteArray := prog_1_method_11_code
def yX10_run : MethodName := ⟨RX10, "run", "(I)I"⟩
abbrev cX10_value : ByteArray := prog_1_method_12_code
def yX10_value : MethodName := ⟨RX10, "value", "(IIII)J"⟩
abbrev cX10_termOf : ByteArray := prog_1_method_13_code
def yX10_termOf : MethodName := ⟨RX10, "termOf", "(II)I"⟩
abbrev cX10_directionOf : ByteArray := prog_1_method_14_code
def yX10_directionOf : MethodName := ⟨RX10, "directionOf", "(II)I"⟩
abbrev cX10_searchOf : ByteArray := prog_1_method_15_code
def yX10_searchOf : MethodName := ⟨RX10, "searchOf", "(I)I"⟩
abbrev cX10_leftAt : ByteArray := prog_1_method_16_code
def yX10_leftAt : MethodName := ⟨RX10, "leftAt", "(II)I"⟩
abbrev cX10_count : ByteArray := prog_1_method_17_code
def yX10_count : MethodName := ⟨RX10, "count", "(I)I"⟩
abbrev cX10_boundOf : ByteArray := prog_1_method_18_code
def yX10_boundOf : MethodName := ⟨RX10, "boundOf", "(I)I"⟩
abbrev cX10_trialOf : ByteArray := prog_1_method_19_code
def yX10_trialOf : MethodName := ⟨RX10, "trialOf", "(II)I"⟩
abbrev cX10_spans : ByteArray := prog_1_method_20_code
def yX10_spans : MethodName := ⟨RX10, "spans", "()I"⟩
abbrev cX10_stuck : ByteArray := prog_1_method_21_code
def yX10_stuck : MethodName := ⟨RX10, "stuck", "(I)I"⟩
abbrev cX10_around : ByteArray := prog_1_method_22_code
def yX10_around : MethodName := ⟨RX10, "around", "(II)I"⟩
abbrev cX10_keep : ByteArray := prog_1_method_23_code
def yX10_keep : MethodName := ⟨RX10, "keep", "()I"⟩
abbrev cX10_restore : ByteArray := prog_1_method_24_code
def yX10_restore : MethodName := ⟨RX10, "restore", "()I"⟩
abbrev cX10_undo : ByteArray := prog_1_method_25_code
def yX10_undo : MethodName := ⟨RX10, "undo", "()I"⟩
abbrev cX10_type : ByteArray := prog_1_method_26_code
def yX10_type : MethodName := ⟨RX10, "type", "(I)I"⟩
abbrev cX10_clearText : ByteArray := prog_1_method_27_code
def yX10_clearText : MethodName := ⟨RX10, "clearText", "()I"⟩
abbrev cX10_fault : ByteArray := prog_1_method_28_code
def yX10_fault : MethodName := ⟨RX10, "fault", "(I)I"⟩
abbrev cX10_read : ByteArray := prog_1_method_29_code
def yX10_read : MethodName := ⟨RX10, "read", "()I"⟩
abbrev cX10_within : ByteArray := prog_1_method_30_code
def yX10_within : MethodName := ⟨RX10, "within", "(III)Z"⟩
abbrev cX10_oneIf : ByteArray := prog_1_method_31_code
def yX10_oneIf : MethodName := ⟨RX10, "oneIf", "(Z)I"⟩
abbrev cX10_closeGap : ByteArray := prog_1_method_32_code
def yX10_closeGap : MethodName := ⟨RX10, "closeGap", "([IIII)V"⟩
def RX11 : String := "PollMeshesModel"
def TX11 : u_T := fun k => match k with
  | 0 => ("PollMeshesModel", "z", "[I", true)
  | 1 => ("PollMeshesModel", "past", "[I", true)
  | 2 => ("PollMeshesModel", "kept", "[I", true)
  | 3 => ("PollMeshesModel", "pastMany", "I", false)
  | 4 => ("PollMeshesModel", "isKept", "Z", false)
  | 5 => ("PollMeshesModel", "text", "[C", true)
  | 6 => ("PollMeshesModel", "typed", "I", false)
  | 7 => ("PollMeshesModel", "row", "[I", true)
  | 8 => ("PollMeshesModel", "rowMany", "I", false)
  | 9 => ("PollMeshesModel", "bestAround", "[I", true)
  | 10 => ("PollMeshesModel", "read", "[I", true)
  | 11 => ("PollMeshesModel", "readMany", "I", false)
  | 12 => ("PollMeshesModel", "at", "I", false)
  | 13 => ("PollMeshesModel", "faultAt", "I", false)
  | _ => ("PollMeshesModel", "reason", "I", false)
def tyX11 : Nat → FieldType := fun k => match k with
  | 0 => .array .int
  | 1 => .array .int
  | 2 => .array .int
  | 3 => .int
  | 4 => .boolean
  | 5 => .array .char
  | 6 => .int
  | 7 => .array .int
  | 8 => .int
  | 9 => .array .int
  | 10 => .array .int
  | 11 => .int
  | 12 => .int
  | 13 => .int
  | _ => .int
abbrev wsX110 : List Cond := u_ws RX11 TX11 15
theorem nmX11 : ∀ a, a < 15 → ∀ b, b < 15 → a ≠ b → (TX11 a).2.1 ≠ (TX11 b).2.1 := by decide +kernel
theorem tyX11_ok : ∀ k, k < 15 → parseFieldDescriptor (TX11 k).2.2.1 = some (tyX11 k) := by decide +kernel
abbrev cX11_init : ByteArray := prog_13_method_1_code
def yX11_init : MethodName := ⟨RX11, "<init>", "()V"⟩
abbrev cX11_in : ByteArray := prog_13_method_2_code
def yX11_in : MethodName := ⟨RX11, "in", "(III)Z"⟩
abbrev cX11_begin : ByteArray := prog_13_method_3_code
def yX11_begin : MethodName := ⟨RX11, "begin", "(I)V"⟩
abbrev cX11_record : ByteArray := prog_13_method_4_code
def yX11_record : MethodName := ⟨RX11, "record", "()V"⟩
abbrev cX11_undo : ByteArray := prog_13_method_5_code
def yX11_undo : MethodName := ⟨RX11, "undo", "()I"⟩
abbrev cX11_keep : ByteArray := prog_13_method_6_code
def yX11_keep : MethodName := ⟨RX11, "keep", "()I"⟩
abbrev cX11_restore : ByteArray := prog_13_method_7_code
def yX11_restore : MethodName := ⟨RX11, "restore", "()I"⟩
abbrev cX11_areOfVariables : ByteArray := prog_13_method_8_code
def yX11_areOfVariables : MethodName := ⟨RX11, "areOfVariables", "(III)Z"⟩
abbrev cX11_arePlace : ByteArray := prog_13_method_9_code
def yX11_arePlace : MethodName := ⟨RX11, "arePlace", "(III)Z"⟩
abbrev cX11_power : ByteArray := prog_13_method_10_code
def yX11_power : MethodName := ⟨RX11, "power", "(II)J"⟩
abbrev cX11_valueAt : ByteArray := prog_13_method_11_code
def yX11_valueAt : MethodName := ⟨RX11, "valueAt", "(IIIZ)J"⟩
abbrev cX11_value : ByteArray := prog_13_method_12_code
def yX11_value : MethodName := ⟨RX11, "value", "(IIII)J"⟩
abbrev cX11_variables : ByteArray := prog_13_method_13_code
def yX11_variables : MethodName := ⟨RX11, "variables", "(I)I"⟩
abbrev cX11_putTerm : ByteArray := prog_13_method_14_code
def yX11_putTerm : MethodName := ⟨RX11, "putTerm", "(IIIII)V"⟩
abbrev cX11_term : ByteArray := prog_13_method_15_code
def yX11_term : MethodName := ⟨RX11, "term", "(IIII)I"⟩
abbrev cX11_termMany : ByteArray := prog_13_method_16_code
def yX11_termMany : MethodName := ⟨RX11, "termMany", "()I"⟩
abbrev cX11_oneMore : ByteArray := prog_13_method_17_code
def yX11_oneMore : MethodName := ⟨RX11, "oneMore", "(I)I"⟩
abbrev cX11_dropTerm : ByteArray := prog_13_method_18_code
def yX11_dropTerm : MethodName := ⟨RX11, "dropTerm", "(I)I"⟩
abbrev cX11_isVariable : ByteArray := prog_13_method_19_code
def yX11_isVariable : MethodName := ⟨RX11, "isVariable", "(I)Z"⟩
abbrev cX11_isAllowed : ByteArray := prog_13_method_20_code
def yX11_isAllowed : MethodName := ⟨RX11, "isAllowed", "(III)Z"⟩
abbrev cX11_isHereAllowed : ByteArray := prog_13_method_21_code
def yX11_isHereAllowed : MethodName := ⟨RX11, "isHereAllowed", "()Z"⟩
abbrev cX11_bound : ByteArray := prog_13_method_22_code
def yX11_bound : MethodName := ⟨RX11, "bound", "(III)I"⟩
abbrev cX11_step : ByteArray := prog_13_method_23_code
def yX11_step : MethodName := ⟨RX11, "step", "(II)I"⟩
abbrev cX11_directionMany : ByteArray := prog_13_method_24_code
def yX11_directionMany : MethodName := ⟨RX11, "directionMany", "()I"⟩
abbrev cX11_putDirection : ByteArray := prog_13_method_25_code
def yX11_putDirection : MethodName := ⟨RX11, "putDirection", "(IIII)V"⟩
abbrev cX11_direction : ByteArray := prog_13_method_26_code
def yX11_direction : MethodName := ⟨RX11, "direction", "(III)I"⟩
abbrev cX11_dropDirection : ByteArray := prog_13_method_27_code
def yX11_dropDirection : MethodName := ⟨RX11, "dropDirection", "(I)I"⟩
abbrev cX11_putPlace : ByteArray := prog_13_method_28_code
def yX11_putPlace : MethodName := ⟨RX11, "putPlace", "(III)V"⟩
abbrev cX11_clearSearch : ByteArray := prog_13_method_29_code
def yX11_clearSearch : MethodName := ⟨RX11, "clearSearch", "(I)V"⟩
abbrev cX11_start : ByteArray := prog_13_method_30_code
def yX11_start : MethodName := ⟨RX11, "start", "(IIII)I"⟩
abbrev cX11_order : ByteArray := prog_13_method_31_code
def yX11_order : MethodName := ⟨RX11, "order", "(II)I"⟩
abbrev cX11_trialAt : ByteArray := prog_13_method_32_code
def yX11_trialAt : MethodName := ⟨RX11, "trialAt", "(III)I"⟩
abbrev cX11_isTrialAllowed : ByteArray := prog_13_method_33_code
def yX11_isTrialAllowed : MethodName := ⟨RX11, "isTrialAllowed", "(II)Z"⟩
abbrev cX11_trialValue : ByteArray := prog_13_method_34_code
def yX11_trialValue : MethodName := ⟨RX11, "trialValue", "(IIZ)J"⟩
abbrev cX11_valueHere : ByteArray := prog_13_method_35_code
def yX11_valueHere : MethodName := ⟨RX11, "valueHere", "()J"⟩
abbrev cX11_isAhead : ByteArray := prog_13_method_36_code
def yX11_isAhead : MethodName := ⟨RX11, "isAhead", "(III)Z"⟩
abbrev cX11_layRow : ByteArray := prog_13_method_37_code
def yX11_layRow : MethodName := ⟨RX11, "layRow", "()V"⟩
abbrev cX11_leave : ByteArray := prog_13_method_38_code
def yX11_leave : MethodName := ⟨RX11, "leave", "()V"⟩
abbrev cX11_take : ByteArray := prog_13_method_39_code
def yX11_take : MethodName := ⟨RX11, "take", "(II)V"⟩
abbrev cX11_pollOnce : ByteArray := prog_13_method_40_code
def yX11_pollOnce : MethodName := ⟨RX11, "pollOnce", "()I"⟩
abbrev cX11_canPoll : ByteArray := prog_13_method_41_code
def yX11_canPoll : MethodName := ⟨RX11, "canPoll", "()Z"⟩
abbrev cX11_poll : ByteArray := prog_13_method_42_code
def yX11_poll : MethodName := ⟨RX11, "poll", "()I"⟩
abbrev cX11_run : ByteArray := prog_13_method_43_code
def yX11_run : MethodName := ⟨RX11, "run", "(I)I"⟩
abbrev cX11_termOf : ByteArray := prog_13_method_44_code
def yX11_termOf : MethodName := ⟨RX11, "termOf", "(II)I"⟩
abbrev cX11_directionOf : ByteArray := prog_13_method_45_code
def yX11_directionOf : MethodName := ⟨RX11, "directionOf", "(II)I"⟩
abbrev cX11_searchOf : ByteArray := prog_13_method_46_code
def yX11_searchOf : MethodName := ⟨RX11, "searchOf", "(I)I"⟩
abbrev cX11_leftAt : ByteArray := prog_13_method_47_code
def yX11_leftAt : MethodName := ⟨RX11, "leftAt", "(II)I"⟩
abbrev cX11_count : ByteArray := prog_13_method_48_code
def yX11_count : MethodName := ⟨RX11, "count", "(I)I"⟩
abbrev cX11_trialOf : ByteArray := prog_13_method_49_code
def yX11_trialOf : MethodName := ⟨RX11, "trialOf", "(II)I"⟩
abbrev cX11_isBarred : ByteArray := prog_13_method_50_code
def yX11_isBarred : MethodName := ⟨RX11, "isBarred", "(III)Z"⟩
abbrev cX11_isBarredBoth : ByteArray := prog_13_method_51_code
def yX11_isBarredBoth : MethodName := ⟨RX11, "isBarredBoth", "(III)Z"⟩
abbrev cX11_spanThree : ByteArray := prog_13_method_52_code
def yX11_spanThree : MethodName := ⟨RX11, "spanThree", "()Z"⟩
abbrev cX11_spanTwo : ByteArray := prog_13_method_53_code
def yX11_spanTwo : MethodName := ⟨RX11, "spanTwo", "()Z"⟩
abbrev cX11_spans : ByteArray := prog_13_method_54_code
def yX11_spans : MethodName := ⟨RX11, "spans", "()I"⟩
abbrev cX11_stuck : ByteArray := prog_13_method_55_code
def yX11_stuck : MethodName := ⟨RX11, "stuck", "(I)I"⟩
abbrev cX11_layAround : ByteArray := prog_13_method_56_code
def yX11_layAround : MethodName := ⟨RX11, "layAround", "(I)V"⟩
abbrev cX11_around : ByteArray := prog_13_method_57_code
def yX11_around : MethodName := ⟨RX11, "around", "(II)I"⟩
abbrev cX11_type : ByteArray := prog_13_method_58_code
def yX11_type : MethodName := ⟨RX11, "type", "(I)I"⟩
abbrev cX11_clearText : ByteArray := prog_13_method_59_code
def yX11_clearText : MethodName := ⟨RX11, "clearText", "()I"⟩
abbrev cX11_letter : ByteArray := prog_13_method_60_code
def yX11_letter : MethodName := ⟨RX11, "letter", "(I)I"⟩
abbrev cX11_fail : ByteArray := prog_13_method_61_code
def yX11_fail : MethodName := ⟨RX11, "fail", "(I)V"⟩
abbrev cX11_isDigit : ByteArray := prog_13_method_62_code
def yX11_isDigit : MethodName := ⟨RX11, "isDigit", "(I)Z"⟩
abbrev cX11_readNumber : ByteArray := prog_13_method_63_code
def yX11_readNumber : MethodName := ⟨RX11, "readNumber", "()I"⟩
abbrev cX11_readLetters : ByteArray := prog_13_method_64_code
def yX11_readLetters : MethodName := ⟨RX11, "readLetters", "(I)V"⟩
abbrev cX11_readTerm : ByteArray := prog_13_method_65_code
def yX11_readTerm : MethodName := ⟨RX11, "readTerm", "(Z)V"⟩
abbrev cX11_readText : ByteArray := prog_13_method_66_code
def yX11_readText : MethodName := ⟨RX11, "readText", "()V"⟩
abbrev cX11_fault : ByteArray := prog_13_method_67_code
def yX11_fault : MethodName := ⟨RX11, "fault", "(I)I"⟩
abbrev cX11_read : ByteArray := prog_13_method_68_code
def yX11_read : MethodName := ⟨RX11, "read", "()I"⟩
def RJ9 : String := "java/lang/Math"
def TJ9 : u_T := fun k => match k with
  | _ => ("", "", "", false)
def tyJ9 : Nat → FieldType := fun k => match k with
  | _ => .int
abbrev wsJ90 : List Cond := u_ws RJ9 TJ9 0
theorem nmJ9 : ∀ a, a < 0 → ∀ b, b < 0 → a ≠ b → (TJ9 a).2.1 ≠ (TJ9 b).2.1 := by decide +kernel
theorem tyJ9_ok : ∀ k, k < 0 → parseFieldDescriptor (TJ9 k).2.2.1 = some (tyJ9 k) := by decide +kernel
abbrev cJ9_max_7cf53 : ByteArray := prog_14_method_65_code
def yJ9_max_7cf53 : MethodName := ⟨RJ9, "max", "(II)I"⟩
abbrev cJ9_min_7cf53 : ByteArray := prog_14_method_69_code
def yJ9_min_7cf53 : MethodName := ⟨RJ9, "min", "(II)I"⟩
def RJ10 : String := "java/lang/System"
def TJ10 : u_T := fun k => match k with
  | _ => ("", "", "", false)
def tyJ10 : Nat → FieldType := fun k => match k with
  | _ => .int
abbrev wsJ100 : List Cond := u_ws RJ10 TJ10 0
theorem nmJ10 : ∀ a, a < 0 → ∀ b, b < 0 → a ≠ b → (TJ10 a).2.1 ≠ (TJ10 b).2.1 := by decide +kernel
theorem tyJ10_ok : ∀ k, k < 0 → parseFieldDescriptor (TJ10 k).2.2.1 = some (tyJ10 k) := by decide +kernel
def RL : String := "PollMeshesLaw"
abbrev cL_law : ByteArray := code
def yL_law : MethodName := ⟨RL, "law", "([I)Z"⟩
abbrev vwCl : List vw_C := [(RX0, TX0, 2), (RX1, TX1, 3), (RX2, TX2, 5), (RX3, TX3, 2), (RX4, TX4, 9), (RX5, TX5, 3), (RX6, TX6, 7), (RX7, TX7, 3), (RX8, TX8, 10), (RX9, TX9, 6), (RX10, TX10, 8), (RX11, TX11, 15)]
end
section
theorem dX0_init_0 : decode cX0_init 0 = .ok (.aload_n 0, 1) := by decide +kernel
theorem dX0_init_1 : decode cX0_init 1 = .ok (.invokespecial 3, 3) := by decide +kernel
theorem dX0_init_4 : decode cX0_init 4 = .ok (.aload_n 0, 1) := by decide +kernel
theorem dX0_init_5 : decode cX0_init 5 = .ok (.iconst 3, 1) := by decide +kernel
theorem dX0_init_6 : decode cX0_init 6 = .ok (.newarray .int, 2) := by decide +kernel
theorem dX0_init_8 : decode cX0_init 8 = .ok (.putfield 9, 3) := by decide +kernel
theorem dX0_init_11 : decode cX0_init 11 = .ok (.aload_n 0, 1) := by decide +kernel
theorem dX0_init_12 : decode cX0_init 12 = .ok (.iconst 3, 1) := by decide +kernel
theorem dX0_init_13 : decode cX0_init 13 = .ok (.newarray .int, 2) := by decide +kernel
theorem dX0_init_15 : decode cX0_init 15 = .ok (.putfield 15, 3) := by decide +kernel
theorem dX0_init_18 : decode cX0_init 18 = .ok (.return_, 1) := by decide +kernel
theorem dX0_reset_0 : decode cX0_reset 0 = .ok (.iconst 0, 1) := by decide +kernel
theorem dX0_reset_1 : decode cX0_reset 1 = .ok (.istore_n 1, 1) := by decide +kernel
theorem dX0_reset_2 : decode cX0_reset 2 = .ok (.iload_n 1, 1) := by decide +kernel
theorem dX0_reset_3 : decode cX0_reset 3 = .ok (.iconst 3, 1) := by decide +kernel
theorem dX0_reset_4 : decode cX0_reset 4 = .ok (.if_icmp .ge 25, 3) := by decide +kernel
theorem dX0_reset_7 : decode cX0_reset 7 = .ok (.aload_n 0, 1) := by decide +kernel
theorem dX0_reset_8 : decode cX0_reset 8 = .ok (.getfield 9, 3) := by decide +kernel
theorem dX0_reset_11 : decode cX0_reset 11 = .ok (.iload_n 1, 1) := by decide +kernel
theorem dX0_reset_12 : decode cX0_reset 12 = .ok (.bipush (-50), 2) := by decide +kernel
theorem dX0_reset_14 : decode cX0_reset 14 = .ok (.iastore, 1) := by decide +kernel
theorem dX0_reset_15 : decode cX0_reset 15 = .ok (.aload_n 0, 1) := by decide +kernel
theorem dX0_reset_16 : decode cX0_reset 16 = .ok (.getfield 15, 3) := by decide +kernel
theorem dX0_reset_19 : decode cX0_reset 19 = .ok (.iload_n 1, 1) := by decide +kernel
theorem dX0_reset_20 : decode cX0_reset 20 = .ok (.bipush 50, 2) := by decide +kernel
theorem dX0_reset_22 : decode cX0_reset 22 = .ok (.iastore, 1) := by decide +kernel
theorem dX0_reset_23 : decode cX0_reset 23 = .ok (.iinc 1 1, 3) := by decide +kernel
theorem dX0_reset_26 : decode cX0_reset 26 = .ok (.goto (-24), 3) := by decide +kernel
theorem dX0_reset_29 : decode cX0_reset 29 = .ok (.return_, 1) := by decide +kernel
theorem dX0_copyFrom_0 : decode cX0_copyFrom 0 = .ok (.aload_n 1, 1) := by decide +kernel
theorem dX0_copyFrom_1 : decode cX0_copyFrom 1 = .ok (.getfield 9, 3) := by decide +kernel
theorem dX0_copyFrom_4 : decode cX0_copyFrom 4 = .ok (.iconst 0, 1) := by decide +kernel
theorem dX0_copyFrom_5 : decode cX0_copyFrom 5 = .ok (.aload_n 0, 1) := by decide +kernel
theorem dX0_copyFrom_6 : decode cX0_copyFrom 6 = .ok (.getfield 9, 3) := by decide +kernel
theorem dX0_copyFrom_9 : decode cX0_copyFrom 9 = .ok (.iconst 0, 1) := by decide +kernel
theorem dX0_copyFrom_10 : decode cX0_copyFrom 10 = .ok (.iconst 3, 1) := by decide +kernel
theorem dX0_copyFrom_11 : decode cX0_copyFrom 11 = .ok (.invokestatic 18, 3) := by decide +kernel
theorem dX0_copyFrom_14 : decode cX0_copyFrom 14 = .ok (.aload_n 1, 1) := by decide +kernel
theorem dX0_copyFrom_15 : decode cX0_copyFrom 15 = .ok (.getfield 15, 3) := by decide +kernel
theorem dX0_copyFrom_18 : decode cX0_copyFrom 18 = .ok (.iconst 0, 1) := by decide +kernel
theorem dX0_copyFrom_19 : decode cX0_copyFrom 19 = .ok (.aload_n 0, 1) := by decide +kernel
theorem dX0_copyFrom_20 : decode cX0_copyFrom 20 = .ok (.getfield 15, 3) := by decide +kernel
theorem dX0_copyFrom_23 : decode cX0_copyFrom 23 = .ok (.iconst 0, 1) := by decide +kernel
theorem dX0_copyFrom_24 : decode cX0_copyFrom 24 = .ok (.iconst 3, 1) := by decide +kernel
theorem dX0_copyFrom_25 : decode cX0_copyFrom 25 = .ok (.invokestatic 18, 3) := by decide +kernel
theorem dX0_copyFrom_28 : decode cX0_copyFrom 28 = .ok (.return_, 1) := by decide +kernel
theorem dX0_allow_0 : decode cX0_allow 0 = .ok (.iload_n 1, 1) := by decide +kernel
theorem dX0_allow_1 : decode cX0_allow 1 = .ok (.aload_n 0, 1) := by decide +kernel
theorem dX0_allow_2 : decode cX0_allow 2 = .ok (.getfield 9, 3) := by decide +kernel
theorem dX0_allow_5 : decode cX0_allow 5 = .ok (.iconst 0, 1) := by decide +kernel
theorem dX0_allow_6 : decode cX0_allow 6 = .ok (.iaload, 1) := by decide +kernel
theorem dX0_allow_7 : decode cX0_allow 7 = .ok (.aload_n 0, 1) := by decide +kernel
theorem dX0_allow_8 : decode cX0_allow 8 = .ok (.getfield 15, 3) := by decide +kernel
theorem dX0_allow_11 : decode cX0_allow 11 = .ok (.iconst 0, 1) := by decide +kernel
theorem dX0_allow_12 : decode cX0_allow 12 = .ok (.iaload, 1) := by decide +kernel
theorem dX0_allow_13 : decode cX0_allow 13 = .ok (.invokestatic 24, 3) := by decide +kernel
theorem dX0_allow_16 : decode cX0_allow 16 = .ok (.ifCond .eq 45, 3) := by decide +kernel
theorem dX0_allow_19 : decode cX0_allow 19 = .ok (.iload_n 2, 1) := by decide +kernel
theorem dX0_allow_20 : decode cX0_allow 20 = .ok (.aload_n 0, 1) := by decide +kernel
theorem dX0_allow_21 : decode cX0_allow 21 = .ok (.getfield 9, 3) := by decide +kernel
theorem dX0_allow_24 : decode cX0_allow 24 = .ok (.iconst 1, 1) := by decide +kernel
theorem dX0_allow_25 : decode cX0_allow 25 = .ok (.iaload, 1) := by decide +kernel
theorem dX0_allow_26 : decode cX0_allow 26 = .ok (.aload_n 0, 1) := by decide +kernel
theorem dX0_allow_27 : decode cX0_allow 27 = .ok (.getfield 15, 3) := by decide +kernel
theorem dX0_allow_30 : decode cX0_allow 30 = .ok (.iconst 1, 1) := by decide +kernel
theorem dX0_allow_31 : decode cX0_allow 31 = .ok (.iaload, 1) := by decide +kernel
theorem dX0_allow_32 : decode cX0_allow 32 = .ok (.invokestatic 24, 3) := by decide +kernel
theorem dX0_allow_35 : decode cX0_allow 35 = .ok (.ifCond .eq 26, 3) := by decide +kernel
theorem dX0_allow_38 : decode cX0_allow 38 = .ok (.iload_n 3, 1) := by decide +kernel
theorem dX0_allow_39 : decode cX0_allow 39 = .ok (.aload_n 0, 1) := by decide +kernel
theorem dX0_allow_40 : decode cX0_allow 40 = .ok (.getfield 9, 3) := by decide +kernel
theorem dX0_allow_43 : decode cX0_allow 43 = .ok (.iconst 2, 1) := by decide +kernel
theorem dX0_allow_44 : decode cX0_allow 44 = .ok (.iaload, 1) := by decide +kernel
theorem dX0_allow_45 : decode cX0_allow 45 = .ok (.aload_n 0, 1) := by decide +kernel
theorem dX0_allow_46 : decode cX0_allow 46 = .ok (.getfield 15, 3) := by decide +kernel
theorem dX0_allow_49 : decode cX0_allow 49 = .ok (.iconst 2, 1) := by decide +kernel
theorem dX0_allow_50 : decode cX0_allow 50 = .ok (.iaload, 1) := by decide +kernel
theorem dX0_allow_51 : decode cX0_allow 51 = .ok (.invokestatic 24, 3) := by decide +kernel
theorem dX0_allow_54 : decode cX0_allow 54 = .ok (.ifCond .eq 7, 3) := by decide +kernel
theorem dX0_allow_57 : decode cX0_allow 57 = .ok (.iconst 1, 1) := by decide +kernel
theorem dX0_allow_58 : decode cX0_allow 58 = .ok (.goto 4, 3) := by decide +kernel
theorem dX0_allow_61 : decode cX0_allow 61 = .ok (.iconst 0, 1) := by decide +kernel
theorem dX0_allow_62 : decode cX0_allow 62 = .ok (.ireturn, 1) := by decide +kernel
theorem dX1_init_0 : decode cX1_init 0 = .ok (.aload_n 0, 1) := by decide +kernel
theorem dX1_init_1 : decode cX1_init 1 = .ok (.invokespecial 3, 3) := by decide +kernel
theorem dX1_init_4 : decode cX1_init 4 = .ok (.aload_n 0, 1) := by decide +kernel
theorem dX1_init_5 : decode cX1_init 5 = .ok (.bipush 24, 2) := by decide +kernel
theorem dX1_init_7 : decode cX1_init 7 = .ok (.newarray .int, 2) := by decide +kernel
theorem dX1_init_9 : decode cX1_init 9 = .ok (.putfield 9, 3) := by decide +kernel
theorem dX1_init_12 : decode cX1_init 12 = .ok (.aload_n 0, 1) := by decide +kernel
theorem dX1_init_13 : decode cX1_init 13 = .ok (.bipush 8, 2) := by decide +kernel
theorem dX1_init_15 : decode cX1_init 15 = .ok (.newarray .int, 2) := by decide +kernel
theorem dX1_init_17 : decode cX1_init 17 = .ok (.putfield 15, 3) := by decide +kernel
theorem dX1_init_20 : decode cX1_init 20 = .ok (.return_, 1) := by decide +kernel
theorem dX1_reset_0 : decode cX1_reset 0 = .ok (.aload_n 0, 1) := by decide +kernel
theorem dX1_reset_1 : decode cX1_reset 1 = .ok (.iconst 0, 1) := by decide +kernel
theorem dX1_reset_2 : decode cX1_reset 2 = .ok (.putfield 18, 3) := by decide +kernel
theorem dX1_reset_5 : decode cX1_reset 5 = .ok (.iconst 0, 1) := by decide +kernel
theorem dX1_reset_6 : decode cX1_reset 6 = .ok (.istore_n 2, 1) := by decide +kernel
theorem dX1_reset_7 : decode cX1_reset 7 = .ok (.iload_n 2, 1) := by decide +kernel
theorem dX1_reset_8 : decode cX1_reset 8 = .ok (.iload_n 1, 1) := by decide +kernel
theorem dX1_reset_9 : decode cX1_reset 9 = .ok (.if_icmp .ge 21, 3) := by decide +kernel
theorem dX1_reset_12 : decode cX1_reset 12 = .ok (.aload_n 0, 1) := by decide +kernel
theorem dX1_reset_13 : decode cX1_reset 13 = .ok (.iload_n 2, 1) := by decide +kernel
theorem dX1_reset_14 : decode cX1_reset 14 = .ok (.iconst 1, 1) := by decide +kernel
theorem dX1_reset_15 : decode cX1_reset 15 = .ok (.invokevirtual 22, 3) := by decide +kernel
theorem dX1_reset_18 : decode cX1_reset 18 = .ok (.aload_n 0, 1) := by decide +kernel
theorem dX1_reset_19 : decode cX1_reset 19 = .ok (.iload_n 2, 1) := by decide +kernel
theorem dX1_reset_20 : decode cX1_reset 20 = .ok (.iconst (-1), 1) := by decide +kernel
theorem dX1_reset_21 : decode cX1_reset 21 = .ok (.invokevirtual 22, 3) := by decide +kernel
theorem dX1_reset_24 : decode cX1_reset 24 = .ok (.iinc 2 1, 3) := by decide +kernel
theorem dX1_reset_27 : decode cX1_reset 27 = .ok (.goto (-20), 3) := by decide +kernel
theorem dX1_reset_30 : decode cX1_reset 30 = .ok (.return_, 1) := by decide +kernel
theorem dX1_addAlong_0 : decode cX1_addAlong 0 = .ok (.aload_n 0, 1) := by decide +kernel
theorem dX1_addAlong_1 : decode cX1_addAlong 1 = .ok (.iload_n 1, 1) := by decide +kernel
theorem dX1_addAlong_2 : decode cX1_addAlong 2 = .ok (.ifCond .ne 7, 3) := by decide +kernel
theorem dX1_addAlong_5 : decode cX1_addAlong 5 = .ok (.iload_n 2, 1) := by decide +kernel
theorem dX1_addAlong_6 : decode cX1_addAlong 6 = .ok (.goto 4, 3) := by decide +kernel
theorem dX1_addAlong_9 : decode cX1_addAlong 9 = .ok (.iconst 0, 1) := by decide +kernel
theorem dX1_addAlong_10 : decode cX1_addAlong 10 = .ok (.iload_n 1, 1) := by decide +kernel
theorem dX1_addAlong_11 : decode cX1_addAlong 11 = .ok (.iconst 1, 1) := by decide +kernel
theorem dX1_addAlong_12 : decode cX1_addAlong 12 = .ok (.if_icmp .ne 7, 3) := by decide +kernel
theorem dX1_addAlong_15 : decode cX1_addAlong 15 = .ok (.iload_n 2, 1) := by decide +kernel
theorem dX1_addAlong_16 : decode cX1_addAlong 16 = .ok (.goto 4, 3) := by decide +kernel
theorem dX1_addAlong_19 : decode cX1_addAlong 19 = .ok (.iconst 0, 1) := by decide +kernel
theorem dX1_addAlong_20 : decode cX1_addAlong 20 = .ok (.iload_n 1, 1) := by decide +kernel
theorem dX1_addAlong_21 : decode cX1_addAlong 21 = .ok (.iconst 2, 1) := by decide +kernel
theorem dX1_addAlong_22 : decode cX1_addAlong 22 = .ok (.if_icmp .ne 7, 3) := by decide +kernel
theorem dX1_addAlong_25 : decode cX1_addAlong 25 = .ok (.iload_n 2, 1) := by decide +kernel
theorem dX1_addAlong_26 : decode cX1_addAlong 26 = .ok (.goto 4, 3) := by decide +kernel
theorem dX1_addAlong_29 : decode cX1_addAlong 29 = .ok (.iconst 0, 1) := by decide +kernel
theorem dX1_addAlong_30 : decode cX1_addAlong 30 = .ok (.invokevirtual 26, 3) := by decide +kernel
theorem dX1_addAlong_33 : decode cX1_addAlong 33 = .ok (.return_, 1) := by decide +kernel
theorem dX1_copyFrom_0 : decode cX1_copyFrom 0 = .ok (.aload_n 0, 1) := by decide +kernel
theorem dX1_copyFrom_1 : decode cX1_copyFrom 1 = .ok (.aload_n 1, 1) := by decide +kernel
theorem dX1_copyFrom_2 : decode cX1_copyFrom 2 = .ok (.getfield 18, 3) := by decide +kernel
theorem dX1_copyFrom_5 : decode cX1_copyFrom 5 = .ok (.putfield 18, 3) := by decide +kernel
theorem dX1_copyFrom_8 : decode cX1_copyFrom 8 = .ok (.aload_n 1, 1) := by decide +kernel
theorem dX1_copyFrom_9 : decode cX1_copyFrom 9 = .ok (.getfield 9, 3) := by decide +kernel
theorem dX1_copyFrom_12 : decode cX1_copyFrom 12 = .ok (.iconst 0, 1) := by decide +kernel
theorem dX1_copyFrom_13 : decode cX1_copyFrom 13 = .ok (.aload_n 0, 1) := by decide +kernel
theorem dX1_copyFrom_14 : decode cX1_copyFrom 14 = .ok (.getfield 9, 3) := by decide +kernel
theorem dX1_copyFrom_17 : decode cX1_copyFrom 17 = .ok (.iconst 0, 1) := by decide +kernel
theorem dX1_copyFrom_18 : decode cX1_copyFrom 18 = .ok (.bipush 24, 2) := by decide +kernel
theorem dX1_copyFrom_20 : decode cX1_copyFrom 20 = .ok (.invokestatic 30, 3) := by decide +kernel
theorem dX1_copyFrom_23 : decode cX1_copyFrom 23 = .ok (.aload_n 1, 1) := by decide +kernel
theorem dX1_copyFrom_24 : decode cX1_copyFrom 24 = .ok (.getfield 15, 3) := by decide +kernel
theorem dX1_copyFrom_27 : decode cX1_copyFrom 27 = .ok (.iconst 0, 1) := by decide +kernel
theorem dX1_copyFrom_28 : decode cX1_copyFrom 28 = .ok (.aload_n 0, 1) := by decide +kernel
theorem dX1_copyFrom_29 : decode cX1_copyFrom 29 = .ok (.getfield 15, 3) := by decide +kernel
theorem dX1_copyFrom_32 : decode cX1_copyFrom 32 = .ok (.iconst 0, 1) := by decide +kernel
theorem dX1_copyFrom_33 : decode cX1_copyFrom 33 = .ok (.bipush 8, 2) := by decide +kernel
theorem dX1_copyFrom_35 : decode cX1_copyFrom 35 = .ok (.invokestatic 30, 3) := by decide +kernel
theorem dX1_copyFrom_38 : decode cX1_copyFrom 38 = .ok (.return_, 1) := by decide +kernel
theorem dX1_has_0 : decode cX1_has 0 = .ok (.iconst 0, 1) := by decide +kernel
theorem dX1_has_1 : decode cX1_has 1 = .ok (.istore 4, 2) := by decide +kernel
theorem dX1_has_3 : decode cX1_has 3 = .ok (.iload 4, 2) := by decide +kernel
theorem dX1_has_5 : decode cX1_has 5 = .ok (.aload_n 0, 1) := by decide +kernel
theorem dX1_has_6 : decode cX1_has 6 = .ok (.getfield 18, 3) := by decide +kernel
theorem dX1_has_9 : decode cX1_has 9 = .ok (.if_icmp .ge 54, 3) := by decide +kernel
theorem dX1_has_12 : decode cX1_has 12 = .ok (.iconst 3, 1) := by decide +kernel
theorem dX1_has_13 : decode cX1_has 13 = .ok (.iload 4, 2) := by decide +kernel
theorem dX1_has_15 : decode cX1_has 15 = .ok (.imul, 1) := by decide +kernel
theorem dX1_has_16 : decode cX1_has 16 = .ok (.istore 5, 2) := by decide +kernel
theorem dX1_has_18 : decode cX1_has 18 = .ok (.aload_n 0, 1) := by decide +kernel
theorem dX1_has_19 : decode cX1_has 19 = .ok (.getfield 9, 3) := by decide +kernel
theorem dX1_has_22 : decode cX1_has 22 = .ok (.iload 5, 2) := by decide +kernel
theorem dX1_has_24 : decode cX1_has 24 = .ok (.iaload, 1) := by decide +kernel
theorem dX1_has_25 : decode cX1_has 25 = .ok (.iload_n 1, 1) := by decide +kernel
theorem dX1_has_26 : decode cX1_has 26 = .ok (.if_icmp .ne 31, 3) := by decide +kernel
theorem dX1_has_29 : decode cX1_has 29 = .ok (.aload_n 0, 1) := by decide +kernel
theorem dX1_has_30 : decode cX1_has 30 = .ok (.getfield 9, 3) := by decide +kernel
theorem dX1_has_33 : decode cX1_has 33 = .ok (.iload 5, 2) := by decide +kernel
theorem dX1_has_35 : decode cX1_has 35 = .ok (.iconst 1, 1) := by decide +kernel
theorem dX1_has_36 : decode cX1_has 36 = .ok (.iadd, 1) := by decide +kernel
theorem dX1_has_37 : decode cX1_has 37 = .ok (.iaload, 1) := by decide +kernel
theorem dX1_has_38 : decode cX1_has 38 = .ok (.iload_n 2, 1) := by decide +kernel
theorem dX1_has_39 : decode cX1_has 39 = .ok (.if_icmp .ne 18, 3) := by decide +kernel
theorem dX1_has_42 : decode cX1_has 42 = .ok (.aload_n 0, 1) := by decide +kernel
theorem dX1_has_43 : decode cX1_has 43 = .ok (.getfield 9, 3) := by decide +kernel
theorem dX1_has_46 : decode cX1_has 46 = .ok (.iload 5, 2) := by decide +kernel
theorem dX1_has_48 : decode cX1_has 48 = .ok (.iconst 2, 1) := by decide +kernel
theorem dX1_has_49 : decode cX1_has 49 = .ok (.iadd, 1) := by decide +kernel
theorem dX1_has_50 : decode cX1_has 50 = .ok (.iaload, 1) := by decide +kernel
theorem dX1_has_51 : decode cX1_has 51 = .ok (.iload_n 3, 1) := by decide +kernel
theorem dX1_has_52 : decode cX1_has 52 = .ok (.if_icmp .ne 5, 3) := by decide +kernel
theorem dX1_has_55 : decode cX1_has 55 = .ok (.iconst 1, 1) := by decide +kernel
theorem dX1_has_56 : decode cX1_has 56 = .ok (.ireturn, 1) := by decide +kernel
theorem dX1_has_57 : decode cX1_has 57 = .ok (.iinc 4 1, 3) := by decide +kernel
theorem dX1_has_60 : decode cX1_has 60 = .ok (.goto (-57), 3) := by decide +kernel
theorem dX1_has_63 : decode cX1_has 63 = .ok (.iconst 0, 1) := by decide +kernel
theorem dX1_has_64 : decode cX1_has 64 = .ok (.ireturn, 1) := by decide +kernel
theorem dX1_add_0 : decode cX1_add 0 = .ok (.aload_n 0, 1) := by decide +kernel
theorem dX1_add_1 : decode cX1_add 1 = .ok (.getfield 18, 3) := by decide +kernel
theorem dX1_add_4 : decode cX1_add 4 = .ok (.bipush 8, 2) := by decide +kernel
theorem dX1_add_6 : decode cX1_add 6 = .ok (.if_icmp .lt 4, 3) := by decide +kernel
theorem dX1_add_9 : decode cX1_add 9 = .ok (.return_, 1) := by decide +kernel
theorem dX1_add_10 : decode cX1_add 10 = .ok (.aload_n 0, 1) := by decide +kernel
theorem dX1_add_11 : decode cX1_add 11 = .ok (.getfield 9, 3) := by decide +kernel
theorem dX1_add_14 : decode cX1_add 14 = .ok (.iconst 3, 1) := by decide +kernel
theorem dX1_add_15 : decode cX1_add 15 = .ok (.aload_n 0, 1) := by decide +kernel
theorem dX1_add_16 : decode cX1_add 16 = .ok (.getfield 18, 3) := by decide +kernel
theorem dX1_add_19 : decode cX1_add 19 = .ok (.imul, 1) := by decide +kernel
theorem dX1_add_20 : decode cX1_add 20 = .ok (.iload_n 1, 1) := by decide +kernel
theorem dX1_add_21 : decode cX1_add 21 = .ok (.iastore, 1) := by decide +kernel
theorem dX1_add_22 : decode cX1_add 22 = .ok (.aload_n 0, 1) := by decide +kernel
theorem dX1_add_23 : decode cX1_add 23 = .ok (.getfield 9, 3) := by decide +kernel
theorem dX1_add_26 : decode cX1_add 26 = .ok (.iconst 3, 1) := by decide +kernel
theorem dX1_add_27 : decode cX1_add 27 = .ok (.aload_n 0, 1) := by decide +kernel
theorem dX1_add_28 : decode cX1_add 28 = .ok (.getfield 18, 3) := by decide +kernel
theorem dX1_add_31 : decode cX1_add 31 = .ok (.imul, 1) := by decide +kernel
theorem dX1_add_32 : decode cX1_add 32 = .ok (.iconst 1, 1) := by decide +kernel
theorem dX1_add_33 : decode cX1_add 33 = .ok (.iadd, 1) := by decide +kernel
theorem dX1_add_34 : decode cX1_add 34 = .ok (.iload_n 2, 1) := by decide +kernel
theorem dX1_add_35 : decode cX1_add 35 = .ok (.iastore, 1) := by decide +kernel
theorem dX1_add_36 : decode cX1_add 36 = .ok (.aload_n 0, 1) := by decide +kernel
theorem dX1_add_37 : decode cX1_add 37 = .ok (.getfield 9, 3) := by decide +kernel
theorem dX1_add_40 : decode cX1_add 40 = .ok (.iconst 3, 1) := by decide +kernel
theorem dX1_add_41 : decode cX1_add 41 = .ok (.aload_n 0, 1) := by decide +kernel
theorem dX1_add_42 : decode cX1_add 42 = .ok (.getfield 18, 3) := by decide +kernel
theorem dX1_add_45 : decode cX1_add 45 = .ok (.imul, 1) := by decide +kernel
theorem dX1_add_46 : decode cX1_add 46 = .ok (.iconst 2, 1) := by decide +kernel
theorem dX1_add_47 : decode cX1_add 47 = .ok (.iadd, 1) := by decide +kernel
theorem dX1_add_48 : decode cX1_add 48 = .ok (.iload_n 3, 1) := by decide +kernel
theorem dX1_add_49 : decode cX1_add 49 = .ok (.iastore, 1) := by decide +kernel
theorem dX1_add_50 : decode cX1_add 50 = .ok (.aload_n 0, 1) := by decide +kernel
theorem dX1_add_51 : decode cX1_add 51 = .ok (.getfield 15, 3) := by decide +kernel
theorem dX1_add_54 : decode cX1_add 54 = .ok (.aload_n 0, 1) := by decide +kernel
theorem dX1_add_55 : decode cX1_add 55 = .ok (.getfield 18, 3) := by decide +kernel
theorem dX1_add_58 : decode cX1_add 58 = .ok (.iconst 0, 1) := by decide +kernel
theorem dX1_add_59 : decode cX1_add 59 = .ok (.iastore, 1) := by decide +kernel
theorem dX1_add_60 : decode cX1_add 60 = .ok (.aload_n 0, 1) := by decide +kernel
theorem dX1_add_61 : decode cX1_add 61 = .ok (.dup, 1) := by decide +kernel
theorem dX1_add_62 : decode cX1_add 62 = .ok (.getfield 18, 3) := by decide +kernel
theorem dX1_add_65 : decode cX1_add 65 = .ok (.iconst 1, 1) := by decide +kernel
theorem dX1_add_66 : decode cX1_add 66 = .ok (.iadd, 1) := by decide +kernel
theorem dX1_add_67 : decode cX1_add 67 = .ok (.putfield 18, 3) := by decide +kernel
theorem dX1_add_70 : decode cX1_add 70 = .ok (.return_, 1) := by decide +kernel
theorem dX1_remove_0 : decode cX1_remove 0 = .ok (.iload_n 1, 1) := by decide +kernel
theorem dX1_remove_1 : decode cX1_remove 1 = .ok (.ifCond .lt 11, 3) := by decide +kernel
theorem dX1_remove_4 : decode cX1_remove 4 = .ok (.iload_n 1, 1) := by decide +kernel
theorem dX1_remove_5 : decode cX1_remove 5 = .ok (.aload_n 0, 1) := by decide +kernel
theorem dX1_remove_6 : decode cX1_remove 6 = .ok (.getfield 18, 3) := by decide +kernel
theorem dX1_remove_9 : decode cX1_remove 9 = .ok (.if_icmp .lt 4, 3) := by decide +kernel
theorem dX1_remove_12 : decode cX1_remove 12 = .ok (.return_, 1) := by decide +kernel
theorem dX1_remove_13 : decode cX1_remove 13 = .ok (.aload_n 0, 1) := by decide +kernel
theorem dX1_remove_14 : decode cX1_remove 14 = .ok (.getfield 15, 3) := by decide +kernel
theorem dX1_remove_17 : decode cX1_remove 17 = .ok (.iconst 1, 1) := by decide +kernel
theorem dX1_remove_18 : decode cX1_remove 18 = .ok (.iload_n 1, 1) := by decide +kernel
theorem dX1_remove_19 : decode cX1_remove 19 = .ok (.aload_n 0, 1) := by decide +kernel
theorem dX1_remove_20 : decode cX1_remove 20 = .ok (.getfield 18, 3) := by decide +kernel
theorem dX1_remove_23 : decode cX1_remove 23 = .ok (.invokestatic 36, 3) := by decide +kernel
theorem dX1_remove_26 : decode cX1_remove 26 = .ok (.aload_n 0, 1) := by decide +kernel
theorem dX1_remove_27 : decode cX1_remove 27 = .ok (.getfield 9, 3) := by decide +kernel
theorem dX1_remove_30 : decode cX1_remove 30 = .ok (.iconst 3, 1) := by decide +kernel
theorem dX1_remove_31 : decode cX1_remove 31 = .ok (.iload_n 1, 1) := by decide +kernel
theorem dX1_remove_32 : decode cX1_remove 32 = .ok (.aload_n 0, 1) := by decide +kernel
theorem dX1_remove_33 : decode cX1_remove 33 = .ok (.getfield 18, 3) := by decide +kernel
theorem dX1_remove_36 : decode cX1_remove 36 = .ok (.invokestatic 36, 3) := by decide +kernel
theorem dX1_remove_39 : decode cX1_remove 39 = .ok (.aload_n 0, 1) := by decide +kernel
theorem dX1_remove_40 : decode cX1_remove 40 = .ok (.dup, 1) := by decide +kernel
theorem dX1_remove_41 : decode cX1_remove 41 = .ok (.getfield 18, 3) := by decide +kernel
theorem dX1_remove_44 : decode cX1_remove 44 = .ok (.iconst 1, 1) := by decide +kernel
theorem dX1_remove_45 : decode cX1_remove 45 = .ok (.isub, 1) := by decide +kernel
theorem dX1_remove_46 : decode cX1_remove 46 = .ok (.putfield 18, 3) := by decide +kernel
theorem dX1_remove_49 : decode cX1_remove 49 = .ok (.return_, 1) := by decide +kernel
theorem dX1_forgetTaken_0 : decode cX1_forgetTaken 0 = .ok (.iconst 0, 1) := by decide +kernel
theorem dX1_forgetTaken_1 : decode cX1_forgetTaken 1 = .ok (.istore_n 1, 1) := by decide +kernel
theorem dX1_forgetTaken_2 : decode cX1_forgetTaken 2 = .ok (.iload_n 1, 1) := by decide +kernel
theorem dX1_forgetTaken_3 : decode cX1_forgetTaken 3 = .ok (.bipush 8, 2) := by decide +kernel
theorem dX1_forgetTaken_5 : decode cX1_forgetTaken 5 = .ok (.if_icmp .ge 16, 3) := by decide +kernel
theorem dX1_forgetTaken_8 : decode cX1_forgetTaken 8 = .ok (.aload_n 0, 1) := by decide +kernel
theorem dX1_forgetTaken_9 : decode cX1_forgetTaken 9 = .ok (.getfield 15, 3) := by decide +kernel
theorem dX1_forgetTaken_12 : decode cX1_forgetTaken 12 = .ok (.iload_n 1, 1) := by decide +kernel
theorem dX1_forgetTaken_13 : decode cX1_forgetTaken 13 = .ok (.iconst 0, 1) := by decide +kernel
theorem dX1_forgetTaken_14 : decode cX1_forgetTaken 14 = .ok (.iastore, 1) := by decide +kernel
theorem dX1_forgetTaken_15 : decode cX1_forgetTaken 15 = .ok (.iinc 1 1, 3) := by decide +kernel
theorem dX1_forgetTaken_18 : decode cX1_forgetTaken 18 = .ok (.goto (-16), 3) := by decide +kernel
theorem dX1_forgetTaken_21 : decode cX1_forgetTaken 21 = .ok (.return_, 1) := by decide +kernel
theorem dX2_init_0 : decode cX2_init 0 = .ok (.aload_n 0, 1) := by decide +kernel
theorem dX2_init_1 : decode cX2_init 1 = .ok (.invokespecial 3, 3) := by decide +kernel
theorem dX2_init_4 : decode cX2_init 4 = .ok (.aload_n 0, 1) := by decide +kernel
theorem dX2_init_5 : decode cX2_init 5 = .ok (.new 9, 3) := by decide +kernel
theorem dX2_init_8 : decode cX2_init 8 = .ok (.dup, 1) := by decide +kernel
theorem dX2_init_9 : decode cX2_init 9 = .ok (.invokespecial 11, 3) := by decide +kernel
theorem dX2_init_12 : decode cX2_init 12 = .ok (.putfield 12, 3) := by decide +kernel
theorem dX2_init_15 : decode cX2_init 15 = .ok (.aload_n 0, 1) := by decide +kernel
theorem dX2_init_16 : decode cX2_init 16 = .ok (.new 9, 3) := by decide +kernel
theorem dX2_init_19 : decode cX2_init 19 = .ok (.dup, 1) := by decide +kernel
theorem dX2_init_20 : decode cX2_init 20 = .ok (.invokespecial 11, 3) := by decide +kernel
theorem dX2_init_23 : decode cX2_init 23 = .ok (.putfield 18, 3) := by decide +kernel
theorem dX2_init_26 : decode cX2_init 26 = .ok (.aload_n 0, 1) := by decide +kernel
theorem dX2_init_27 : decode cX2_init 27 = .ok (.new 9, 3) := by decide +kernel
theorem dX2_init_30 : decode cX2_init 30 = .ok (.dup, 1) := by decide +kernel
theorem dX2_init_31 : decode cX2_init 31 = .ok (.invokespecial 11, 3) := by decide +kernel
theorem dX2_init_34 : decode cX2_init 34 = .ok (.putfield 21, 3) := by decide +kernel
theorem dX2_init_37 : decode cX2_init 37 = .ok (.aload_n 0, 1) := by decide +kernel
theorem dX2_init_38 : decode cX2_init 38 = .ok (.new 9, 3) := by decide +kernel
theorem dX2_init_41 : decode cX2_init 41 = .ok (.dup, 1) := by decide +kernel
theorem dX2_init_42 : decode cX2_init 42 = .ok (.invokespecial 11, 3) := by decide +kernel
theorem dX2_init_45 : decode cX2_init 45 = .ok (.putfield 24, 3) := by decide +kernel
theorem dX2_init_48 : decode cX2_init 48 = .ok (.return_, 1) := by decide +kernel
theorem dX2_push_0 : decode cX2_push 0 = .ok (.aload_n 0, 1) := by decide +kernel
theorem dX2_push_1 : decode cX2_push 1 = .ok (.getfield 24, 3) := by decide +kernel
theorem dX2_push_4 : decode cX2_push 4 = .ok (.aload_n 0, 1) := by decide +kernel
theorem dX2_push_5 : decode cX2_push 5 = .ok (.getfield 21, 3) := by decide +kernel
theorem dX2_push_8 : decode cX2_push 8 = .ok (.invokevirtual 27, 3) := by decide +kernel
theorem dX2_push_11 : decode cX2_push 11 = .ok (.aload_n 0, 1) := by decide +kernel
theorem dX2_push_12 : decode cX2_push 12 = .ok (.getfield 21, 3) := by decide +kernel
theorem dX2_push_15 : decode cX2_push 15 = .ok (.aload_n 0, 1) := by decide +kernel
theorem dX2_push_16 : decode cX2_push 16 = .ok (.getfield 18, 3) := by decide +kernel
theorem dX2_push_19 : decode cX2_push 19 = .ok (.invokevirtual 27, 3) := by decide +kernel
theorem dX2_push_22 : decode cX2_push 22 = .ok (.aload_n 0, 1) := by decide +kernel
theorem dX2_push_23 : decode cX2_push 23 = .ok (.getfield 18, 3) := by decide +kernel
theorem dX2_push_26 : decode cX2_push 26 = .ok (.aload_n 0, 1) := by decide +kernel
theorem dX2_push_27 : decode cX2_push 27 = .ok (.getfield 12, 3) := by decide +kernel
theorem dX2_push_30 : decode cX2_push 30 = .ok (.invokevirtual 27, 3) := by decide +kernel
theorem dX2_push_33 : decode cX2_push 33 = .ok (.aload_n 0, 1) := by decide +kernel
theorem dX2_push_34 : decode cX2_push 34 = .ok (.getfield 12, 3) := by decide +kernel
theorem dX2_push_37 : decode cX2_push 37 = .ok (.aload_n 1, 1) := by decide +kernel
theorem dX2_push_38 : decode cX2_push 38 = .ok (.invokevirtual 27, 3) := by decide +kernel
theorem dX2_push_41 : decode cX2_push 41 = .ok (.aload_n 0, 1) := by decide +kernel
theorem dX2_push_42 : decode cX2_push 42 = .ok (.aload_n 0, 1) := by decide +kernel
theorem dX2_push_43 : decode cX2_push 43 = .ok (.getfield 31, 3) := by decide +kernel
theorem dX2_push_46 : decode cX2_push 46 = .ok (.iconst 1, 1) := by decide +kernel
theorem dX2_push_47 : decode cX2_push 47 = .ok (.iadd, 1) := by decide +kernel
theorem dX2_push_48 : decode cX2_push 48 = .ok (.iconst 4, 1) := by decide +kernel
theorem dX2_push_49 : decode cX2_push 49 = .ok (.invokestatic 35, 3) := by decide +kernel
theorem dX2_push_52 : decode cX2_push 52 = .ok (.putfield 31, 3) := by decide +kernel
theorem dX2_push_55 : decode cX2_push 55 = .ok (.return_, 1) := by decide +kernel
theorem dX2_giveBack_0 : decode cX2_giveBack 0 = .ok (.aload_n 1, 1) := by decide +kernel
theorem dX2_giveBack_1 : decode cX2_giveBack 1 = .ok (.aload_n 0, 1) := by decide +kernel
theorem dX2_giveBack_2 : decode cX2_giveBack 2 = .ok (.getfield 12, 3) := by decide +kernel
theorem dX2_giveBack_5 : decode cX2_giveBack 5 = .ok (.invokevirtual 27, 3) := by decide +kernel
theorem dX2_giveBack_8 : decode cX2_giveBack 8 = .ok (.aload_n 0, 1) := by decide +kernel
theorem dX2_giveBack_9 : decode cX2_giveBack 9 = .ok (.getfield 12, 3) := by decide +kernel
theorem dX2_giveBack_12 : decode cX2_giveBack 12 = .ok (.aload_n 0, 1) := by decide +kernel
theorem dX2_giveBack_13 : decode cX2_giveBack 13 = .ok (.getfield 18, 3) := by decide +kernel
theorem dX2_giveBack_16 : decode cX2_giveBack 16 = .ok (.invokevirtual 27, 3) := by decide +kernel
theorem dX2_giveBack_19 : decode cX2_giveBack 19 = .ok (.aload_n 0, 1) := by decide +kernel
theorem dX2_giveBack_20 : decode cX2_giveBack 20 = .ok (.getfield 18, 3) := by decide +kernel
theorem dX2_giveBack_23 : decode cX2_giveBack 23 = .ok (.aload_n 0, 1) := by decide +kernel
theorem dX2_giveBack_24 : decode cX2_giveBack 24 = .ok (.getfield 21, 3) := by decide +kernel
theorem dX2_giveBack_27 : decode cX2_giveBack 27 = .ok (.invokevirtual 27, 3) := by decide +kernel
theorem dX2_giveBack_30 : decode cX2_giveBack 30 = .ok (.aload_n 0, 1) := by decide +kernel
theorem dX2_giveBack_31 : decode cX2_giveBack 31 = .ok (.getfield 21, 3) := by decide +kernel
theorem dX2_giveBack_34 : decode cX2_giveBack 34 = .ok (.aload_n 0, 1) := by decide +kernel
theorem dX2_giveBack_35 : decode cX2_giveBack 35 = .ok (.getfield 24, 3) := by decide +kernel
theorem dX2_giveBack_38 : decode cX2_giveBack 38 = .ok (.invokevirtual 27, 3) := by decide +kernel
theorem dX2_giveBack_41 : decode cX2_giveBack 41 = .ok (.aload_n 0, 1) := by decide +kernel
theorem dX2_giveBack_42 : decode cX2_giveBack 42 = .ok (.dup, 1) := by decide +kernel
theorem dX2_giveBack_43 : decode cX2_giveBack 43 = .ok (.getfield 31, 3) := by decide +kernel
theorem dX2_giveBack_46 : decode cX2_giveBack 46 = .ok (.iconst 1, 1) := by decide +kernel
theorem dX2_giveBack_47 : decode cX2_giveBack 47 = .ok (.isub, 1) := by decide +kernel
theorem dX2_giveBack_48 : decode cX2_giveBack 48 = .ok (.putfield 31, 3) := by decide +kernel
theorem dX2_giveBack_51 : decode cX2_giveBack 51 = .ok (.return_, 1) := by decide +kernel
theorem dX3_init_0 : decode cX3_init 0 = .ok (.aload_n 0, 1) := by decide +kernel
theorem dX3_init_1 : decode cX3_init 1 = .ok (.invokespecial 3, 3) := by decide +kernel
theorem dX3_init_4 : decode cX3_init 4 = .ok (.aload_n 0, 1) := by decide +kernel
theorem dX3_init_5 : decode cX3_init 5 = .ok (.iconst 3, 1) := by decide +kernel
theorem dX3_init_6 : decode cX3_init 6 = .ok (.newarray .int, 2) := by decide +kernel
theorem dX3_init_8 : decode cX3_init 8 = .ok (.putfield 9, 3) := by decide +kernel
theorem dX3_init_11 : decode cX3_init 11 = .ok (.return_, 1) := by decide +kernel
theorem dX3_findBest_0 : decode cX3_findBest 0 = .ok (.aload_n 1, 1) := by decide +kernel
theorem dX3_findBest_1 : decode cX3_findBest 1 = .ok (.getfield 15, 3) := by decide +kernel
theorem dX3_findBest_4 : decode cX3_findBest 4 = .ok (.iconst 1, 1) := by decide +kernel
theorem dX3_findBest_5 : decode cX3_findBest 5 = .ok (.if_icmp .le 7, 3) := by decide +kernel
theorem dX3_findBest_8 : decode cX3_findBest 8 = .ok (.iload_n 2, 1) := by decide +kernel
theorem dX3_findBest_9 : decode cX3_findBest 9 = .ok (.goto 4, 3) := by decide +kernel
theorem dX3_findBest_12 : decode cX3_findBest 12 = .ok (.iconst 0, 1) := by decide +kernel
theorem dX3_findBest_13 : decode cX3_findBest 13 = .ok (.istore_n 3, 1) := by decide +kernel
theorem dX3_findBest_14 : decode cX3_findBest 14 = .ok (.aload_n 1, 1) := by decide +kernel
theorem dX3_findBest_15 : decode cX3_findBest 15 = .ok (.getfield 15, 3) := by decide +kernel
theorem dX3_findBest_18 : decode cX3_findBest 18 = .ok (.iconst 2, 1) := by decide +kernel
theorem dX3_findBest_19 : decode cX3_findBest 19 = .ok (.if_icmp .le 7, 3) := by decide +kernel
theorem dX3_findBest_22 : decode cX3_findBest 22 = .ok (.iload_n 2, 1) := by decide +kernel
theorem dX3_findBest_23 : decode cX3_findBest 23 = .ok (.goto 4, 3) := by decide +kernel
theorem dX3_findBest_26 : decode cX3_findBest 26 = .ok (.iconst 0, 1) := by decide +kernel
theorem dX3_findBest_27 : decode cX3_findBest 27 = .ok (.istore 4, 2) := by decide +kernel
theorem dX3_findBest_29 : decode cX3_findBest 29 = .ok (.aload_n 0, 1) := by decide +kernel
theorem dX3_findBest_30 : decode cX3_findBest 30 = .ok (.ldc2_w 21, 3) := by decide +kernel
theorem dX3_findBest_33 : decode cX3_findBest 33 = .ok (.putfield 23, 3) := by decide +kernel
theorem dX3_findBest_36 : decode cX3_findBest 36 = .ok (.iload_n 2, 1) := by decide +kernel
theorem dX3_findBest_37 : decode cX3_findBest 37 = .ok (.ineg, 1) := by decide +kernel
theorem dX3_findBest_38 : decode cX3_findBest 38 = .ok (.istore 5, 2) := by decide +kernel
theorem dX3_findBest_40 : decode cX3_findBest 40 = .ok (.iload 5, 2) := by decide +kernel
theorem dX3_findBest_42 : decode cX3_findBest 42 = .ok (.iload_n 2, 1) := by decide +kernel
theorem dX3_findBest_43 : decode cX3_findBest 43 = .ok (.if_icmp .gt 54, 3) := by decide +kernel
theorem dX3_findBest_46 : decode cX3_findBest 46 = .ok (.iload_n 3, 1) := by decide +kernel
theorem dX3_findBest_47 : decode cX3_findBest 47 = .ok (.ineg, 1) := by decide +kernel
theorem dX3_findBest_48 : decode cX3_findBest 48 = .ok (.istore 6, 2) := by decide +kernel
theorem dX3_findBest_50 : decode cX3_findBest 50 = .ok (.iload 6, 2) := by decide +kernel
theorem dX3_findBest_52 : decode cX3_findBest 52 = .ok (.iload_n 3, 1) := by decide +kernel
theorem dX3_findBest_53 : decode cX3_findBest 53 = .ok (.if_icmp .gt 38, 3) := by decide +kernel
theorem dX3_findBest_56 : decode cX3_findBest 56 = .ok (.iload 4, 2) := by decide +kernel
theorem dX3_findBest_58 : decode cX3_findBest 58 = .ok (.ineg, 1) := by decide +kernel
theorem dX3_findBest_59 : decode cX3_findBest 59 = .ok (.istore 7, 2) := by decide +kernel
theorem dX3_findBest_61 : decode cX3_findBest 61 = .ok (.iload 7, 2) := by decide +kernel
theorem dX3_findBest_63 : decode cX3_findBest 63 = .ok (.iload 4, 2) := by decide +kernel
theorem dX3_findBest_65 : decode cX3_findBest 65 = .ok (.if_icmp .gt 20, 3) := by decide +kernel
theorem dX3_findBest_68 : decode cX3_findBest 68 = .ok (.aload_n 0, 1) := by decide +kernel
theorem dX3_findBest_69 : decode cX3_findBest 69 = .ok (.aload_n 1, 1) := by decide +kernel
theorem dX3_findBest_70 : decode cX3_findBest 70 = .ok (.iload 5, 2) := by decide +kernel
theorem dX3_findBest_72 : decode cX3_findBest 72 = .ok (.iload 6, 2) := by decide +kernel
theorem dX3_findBest_74 : decode cX3_findBest 74 = .ok (.iload 7, 2) := by decide +kernel
theorem dX3_findBest_76 : decode cX3_findBest 76 = .ok (.invokevirtual 27, 3) := by decide +kernel
theorem dX3_findBest_79 : decode cX3_findBest 79 = .ok (.iinc 7 1, 3) := by decide +kernel
theorem dX3_findBest_82 : decode cX3_findBest 82 = .ok (.goto (-21), 3) := by decide +kernel
theorem dX3_findBest_85 : decode cX3_findBest 85 = .ok (.iinc 6 1, 3) := by decide +kernel
theorem dX3_findBest_88 : decode cX3_findBest 88 = .ok (.goto (-38), 3) := by decide +kernel
theorem dX3_findBest_91 : decode cX3_findBest 91 = .ok (.iinc 5 1, 3) := by decide +kernel
theorem dX3_findBest_94 : decode cX3_findBest 94 = .ok (.goto (-54), 3) := by decide +kernel
theorem dX3_findBest_97 : decode cX3_findBest 97 = .ok (.return_, 1) := by decide +kernel
theorem dX3_consider_0 : decode cX3_consider 0 = .ok (.aload_n 1, 1) := by decide +kernel
theorem dX3_consider_1 : decode cX3_consider 1 = .ok (.getfield 31, 3) := by decide +kernel
theorem dX3_consider_4 : decode cX3_consider 4 = .ok (.astore 5, 2) := by decide +kernel
theorem dX3_consider_6 : decode cX3_consider 6 = .ok (.aload 5, 2) := by decide +kernel
theorem dX3_consider_8 : decode cX3_consider 8 = .ok (.getfield 35, 3) := by decide +kernel
theorem dX3_consider_11 : decode cX3_consider 11 = .ok (.iconst 0, 1) := by decide +kernel
theorem dX3_consider_12 : decode cX3_consider 12 = .ok (.iaload, 1) := by decide +kernel
theorem dX3_consider_13 : decode cX3_consider 13 = .ok (.iload_n 2, 1) := by decide +kernel
theorem dX3_consider_14 : decode cX3_consider 14 = .ok (.aload 5, 2) := by decide +kernel
theorem dX3_consider_16 : decode cX3_consider 16 = .ok (.getfield 40, 3) := by decide +kernel
theorem dX3_consider_19 : decode cX3_consider 19 = .ok (.imul, 1) := by decide +kernel
theorem dX3_consider_20 : decode cX3_consider 20 = .ok (.iadd, 1) := by decide +kernel
theorem dX3_consider_21 : decode cX3_consider 21 = .ok (.istore 6, 2) := by decide +kernel
theorem dX3_consider_23 : decode cX3_consider 23 = .ok (.aload 5, 2) := by decide +kernel
theorem dX3_consider_25 : decode cX3_consider 25 = .ok (.getfield 35, 3) := by decide +kernel
theorem dX3_consider_28 : decode cX3_consider 28 = .ok (.iconst 1, 1) := by decide +kernel
theorem dX3_consider_29 : decode cX3_consider 29 = .ok (.iaload, 1) := by decide +kernel
theorem dX3_consider_30 : decode cX3_consider 30 = .ok (.iload_n 3, 1) := by decide +kernel
theorem dX3_consider_31 : decode cX3_consider 31 = .ok (.aload 5, 2) := by decide +kernel
theorem dX3_consider_33 : decode cX3_consider 33 = .ok (.getfield 40, 3) := by decide +kernel
theorem dX3_consider_36 : decode cX3_consider 36 = .ok (.imul, 1) := by decide +kernel
theorem dX3_consider_37 : decode cX3_consider 37 = .ok (.iadd, 1) := by decide +kernel
theorem dX3_consider_38 : decode cX3_consider 38 = .ok (.istore 7, 2) := by decide +kernel
theorem dX3_consider_40 : decode cX3_consider 40 = .ok (.aload 5, 2) := by decide +kernel
theorem dX3_consider_42 : decode cX3_consider 42 = .ok (.getfield 35, 3) := by decide +kernel
theorem dX3_consider_45 : decode cX3_consider 45 = .ok (.iconst 2, 1) := by decide +kernel
theorem dX3_consider_46 : decode cX3_consider 46 = .ok (.iaload, 1) := by decide +kernel
theorem dX3_consider_47 : decode cX3_consider 47 = .ok (.iload 4, 2) := by decide +kernel
theorem dX3_consider_49 : decode cX3_consider 49 = .ok (.aload 5, 2) := by decide +kernel
theorem dX3_consider_51 : decode cX3_consider 51 = .ok (.getfield 40, 3) := by decide +kernel
theorem dX3_consider_54 : decode cX3_consider 54 = .ok (.imul, 1) := by decide +kernel
theorem dX3_consider_55 : decode cX3_consider 55 = .ok (.iadd, 1) := by decide +kernel
theorem dX3_consider_56 : decode cX3_consider 56 = .ok (.istore 8, 2) := by decide +kernel
theorem dX3_consider_58 : decode cX3_consider 58 = .ok (.aload_n 1, 1) := by decide +kernel
theorem dX3_consider_59 : decode cX3_consider 59 = .ok (.getfield 43, 3) := by decide +kernel
theorem dX3_consider_62 : decode cX3_consider 62 = .ok (.iload 6, 2) := by decide +kernel
theorem dX3_consider_64 : decode cX3_consider 64 = .ok (.iload 7, 2) := by decide +kernel
theorem dX3_consider_66 : decode cX3_consider 66 = .ok (.iload 8, 2) := by decide +kernel
theorem dX3_consider_68 : decode cX3_consider 68 = .ok (.invokevirtual 47, 3) := by decide +kernel
theorem dX3_consider_71 : decode cX3_consider 71 = .ok (.ifCond .ne 4, 3) := by decide +kernel
theorem dX3_consider_74 : decode cX3_consider 74 = .ok (.return_, 1) := by decide +kernel
theorem dX3_consider_75 : decode cX3_consider 75 = .ok (.aload_n 1, 1) := by decide +kernel
theorem dX3_consider_76 : decode cX3_consider 76 = .ok (.getfield 53, 3) := by decide +kernel
theorem dX3_consider_79 : decode cX3_consider 79 = .ok (.iload 6, 2) := by decide +kernel
theorem dX3_consider_81 : decode cX3_consider 81 = .ok (.iload 7, 2) := by decide +kernel
theorem dX3_consider_83 : decode cX3_consider 83 = .ok (.iload 8, 2) := by decide +kernel
theorem dX3_consider_85 : decode cX3_consider 85 = .ok (.iconst 4, 1) := by decide +kernel
theorem dX3_consider_86 : decode cX3_consider 86 = .ok (.invokevirtual 57, 3) := by decide +kernel
theorem dX3_consider_89 : decode cX3_consider 89 = .ok (.lstore 9, 2) := by decide +kernel
theorem dX3_consider_91 : decode cX3_consider 91 = .ok (.lload 9, 2) := by decide +kernel
theorem dX3_consider_93 : decode cX3_consider 93 = .ok (.aload_n 0, 1) := by decide +kernel
theorem dX3_consider_94 : decode cX3_consider 94 = .ok (.getfield 23, 3) := by decide +kernel
theorem dX3_consider_97 : decode cX3_consider 97 = .ok (.lcmp, 1) := by decide +kernel
theorem dX3_consider_98 : decode cX3_consider 98 = .ok (.ifCond .ge 33, 3) := by decide +kernel
theorem dX3_consider_101 : decode cX3_consider 101 = .ok (.aload_n 0, 1) := by decide +kernel
theorem dX3_consider_102 : decode cX3_consider 102 = .ok (.lload 9, 2) := by decide +kernel
theorem dX3_consider_104 : decode cX3_consider 104 = .ok (.putfield 23, 3) := by decide +kernel
theorem dX3_consider_107 : decode cX3_consider 107 = .ok (.aload_n 0, 1) := by decide +kernel
theorem dX3_consider_108 : decode cX3_consider 108 = .ok (.getfield 9, 3) := by decide +kernel
theorem dX3_consider_111 : decode cX3_consider 111 = .ok (.iconst 0, 1) := by decide +kernel
theorem dX3_consider_112 : decode cX3_consider 112 = .ok (.iload 6, 2) := by decide +kernel
theorem dX3_consider_114 : decode cX3_consider 114 = .ok (.iastore, 1) := by decide +kernel
theorem dX3_consider_115 : decode cX3_consider 115 = .ok (.aload_n 0, 1) := by decide +kernel
theorem dX3_consider_116 : decode cX3_consider 116 = .ok (.getfield 9, 3) := by decide +kernel
theorem dX3_consider_119 : decode cX3_consider 119 = .ok (.iconst 1, 1) := by decide +kernel
theorem dX3_consider_120 : decode cX3_consider 120 = .ok (.iload 7, 2) := by decide +kernel
theorem dX3_consider_122 : decode cX3_consider 122 = .ok (.iastore, 1) := by decide +kernel
theorem dX3_consider_123 : decode cX3_consider 123 = .ok (.aload_n 0, 1) := by decide +kernel
theorem dX3_consider_124 : decode cX3_consider 124 = .ok (.getfield 9, 3) := by decide +kernel
theorem dX3_consider_127 : decode cX3_consider 127 = .ok (.iconst 2, 1) := by decide +kernel
theorem dX3_consider_128 : decode cX3_consider 128 = .ok (.iload 8, 2) := by decide +kernel
theorem dX3_consider_130 : decode cX3_consider 130 = .ok (.iastore, 1) := by decide +kernel
theorem dX3_consider_131 : decode cX3_consider 131 = .ok (.return_, 1) := by decide +kernel
theorem dX4_init_0 : decode cX4_init 0 = .ok (.aload_n 0, 1) := by decide +kernel
theorem dX4_init_1 : decode cX4_init 1 = .ok (.invokespecial 3, 3) := by decide +kernel
theorem dX4_init_4 : decode cX4_init 4 = .ok (.aload_n 0, 1) := by decide +kernel
theorem dX4_init_5 : decode cX4_init 5 = .ok (.iconst 3, 1) := by decide +kernel
theorem dX4_init_6 : decode cX4_init 6 = .ok (.newarray .int, 2) := by decide +kernel
theorem dX4_init_8 : decode cX4_init 8 = .ok (.putfield 9, 3) := by decide +kernel
theorem dX4_init_11 : decode cX4_init 11 = .ok (.aload_n 0, 1) := by decide +kernel
theorem dX4_init_12 : decode cX4_init 12 = .ok (.bipush 18, 2) := by decide +kernel
theorem dX4_init_14 : decode cX4_init 14 = .ok (.newarray .int, 2) := by decide +kernel
theorem dX4_init_16 : decode cX4_init 16 = .ok (.putfield 15, 3) := by decide +kernel
theorem dX4_init_19 : decode cX4_init 19 = .ok (.return_, 1) := by decide +kernel
theorem dX4_begin_0 : decode cX4_begin 0 = .ok (.aload_n 0, 1) := by decide +kernel
theorem dX4_begin_1 : decode cX4_begin 1 = .ok (.iload_n 1, 1) := by decide +kernel
theorem dX4_begin_2 : decode cX4_begin 2 = .ok (.iload_n 2, 1) := by decide +kernel
theorem dX4_begin_3 : decode cX4_begin 3 = .ok (.iload_n 3, 1) := by decide +kernel
theorem dX4_begin_4 : decode cX4_begin 4 = .ok (.invokevirtual 18, 3) := by decide +kernel
theorem dX4_begin_7 : decode cX4_begin 7 = .ok (.aload_n 0, 1) := by decide +kernel
theorem dX4_begin_8 : decode cX4_begin 8 = .ok (.iload 4, 2) := by decide +kernel
theorem dX4_begin_10 : decode cX4_begin 10 = .ok (.putfield 22, 3) := by decide +kernel
theorem dX4_begin_13 : decode cX4_begin 13 = .ok (.aload_n 0, 1) := by decide +kernel
theorem dX4_begin_14 : decode cX4_begin 14 = .ok (.iconst 0, 1) := by decide +kernel
theorem dX4_begin_15 : decode cX4_begin 15 = .ok (.putfield 26, 3) := by decide +kernel
theorem dX4_begin_18 : decode cX4_begin 18 = .ok (.aload_n 0, 1) := by decide +kernel
theorem dX4_begin_19 : decode cX4_begin 19 = .ok (.iconst 0, 1) := by decide +kernel
theorem dX4_begin_20 : decode cX4_begin 20 = .ok (.putfield 29, 3) := by decide +kernel
theorem dX4_begin_23 : decode cX4_begin 23 = .ok (.aload_n 0, 1) := by decide +kernel
theorem dX4_begin_24 : decode cX4_begin 24 = .ok (.iconst 0, 1) := by decide +kernel
theorem dX4_begin_25 : decode cX4_begin 25 = .ok (.putfield 32, 3) := by decide +kernel
theorem dX4_begin_28 : decode cX4_begin 28 = .ok (.aload_n 0, 1) := by decide +kernel
theorem dX4_begin_29 : decode cX4_begin 29 = .ok (.iconst (-1), 1) := by decide +kernel
theorem dX4_begin_30 : decode cX4_begin 30 = .ok (.putfield 35, 3) := by decide +kernel
theorem dX4_begin_33 : decode cX4_begin 33 = .ok (.aload_n 0, 1) := by decide +kernel
theorem dX4_begin_34 : decode cX4_begin 34 = .ok (.iconst 0, 1) := by decide +kernel
theorem dX4_begin_35 : decode cX4_begin 35 = .ok (.putfield 38, 3) := by decide +kernel
theorem dX4_begin_38 : decode cX4_begin 38 = .ok (.aload_n 0, 1) := by decide +kernel
theorem dX4_begin_39 : decode cX4_begin 39 = .ok (.iconst 0, 1) := by decide +kernel
theorem dX4_begin_40 : decode cX4_begin 40 = .ok (.putfield 41, 3) := by decide +kernel
theorem dX4_begin_43 : decode cX4_begin 43 = .ok (.return_, 1) := by decide +kernel
theorem dX4_copyFrom_0 : decode cX4_copyFrom 0 = .ok (.aload_n 1, 1) := by decide +kernel
theorem dX4_copyFrom_1 : decode cX4_copyFrom 1 = .ok (.getfield 9, 3) := by decide +kernel
theorem dX4_copyFrom_4 : decode cX4_copyFrom 4 = .ok (.iconst 0, 1) := by decide +kernel
theorem dX4_copyFrom_5 : decode cX4_copyFrom 5 = .ok (.aload_n 0, 1) := by decide +kernel
theorem dX4_copyFrom_6 : decode cX4_copyFrom 6 = .ok (.getfield 9, 3) := by decide +kernel
theorem dX4_copyFrom_9 : decode cX4_copyFrom 9 = .ok (.iconst 0, 1) := by decide +kernel
theorem dX4_copyFrom_10 : decode cX4_copyFrom 10 = .ok (.iconst 3, 1) := by decide +kernel
theorem dX4_copyFrom_11 : decode cX4_copyFrom 11 = .ok (.invokestatic 45, 3) := by decide +kernel
theorem dX4_copyFrom_14 : decode cX4_copyFrom 14 = .ok (.aload_n 0, 1) := by decide +kernel
theorem dX4_copyFrom_15 : decode cX4_copyFrom 15 = .ok (.aload_n 1, 1) := by decide +kernel
theorem dX4_copyFrom_16 : decode cX4_copyFrom 16 = .ok (.getfield 22, 3) := by decide +kernel
theorem dX4_copyFrom_19 : decode cX4_copyFrom 19 = .ok (.putfield 22, 3) := by decide +kernel
theorem dX4_copyFrom_22 : decode cX4_copyFrom 22 = .ok (.aload_n 0, 1) := by decide +kernel
theorem dX4_copyFrom_23 : decode cX4_copyFrom 23 = .ok (.aload_n 1, 1) := by decide +kernel
theorem dX4_copyFrom_24 : decode cX4_copyFrom 24 = .ok (.getfield 26, 3) := by decide +kernel
theorem dX4_copyFrom_27 : decode cX4_copyFrom 27 = .ok (.putfield 26, 3) := by decide +kernel
theorem dX4_copyFrom_30 : decode cX4_copyFrom 30 = .ok (.aload_n 0, 1) := by decide +kernel
theorem dX4_copyFrom_31 : decode cX4_copyFrom 31 = .ok (.aload_n 1, 1) := by decide +kernel
theorem dX4_copyFrom_32 : decode cX4_copyFrom 32 = .ok (.getfield 29, 3) := by decide +kernel
theorem dX4_copyFrom_35 : decode cX4_copyFrom 35 = .ok (.putfield 29, 3) := by decide +kernel
theorem dX4_copyFrom_38 : decode cX4_copyFrom 38 = .ok (.aload_n 0, 1) := by decide +kernel
theorem dX4_copyFrom_39 : decode cX4_copyFrom 39 = .ok (.aload_n 1, 1) := by decide +kernel
theorem dX4_copyFrom_40 : decode cX4_copyFrom 40 = .ok (.getfield 32, 3) := by decide +kernel
theorem dX4_copyFrom_43 : decode cX4_copyFrom 43 = .ok (.putfield 32, 3) := by decide +kernel
theorem dX4_copyFrom_46 : decode cX4_copyFrom 46 = .ok (.aload_n 0, 1) := by decide +kernel
theorem dX4_copyFrom_47 : decode cX4_copyFrom 47 = .ok (.aload_n 1, 1) := by decide +kernel
theorem dX4_copyFrom_48 : decode cX4_copyFrom 48 = .ok (.getfield 35, 3) := by decide +kernel
theorem dX4_copyFrom_51 : decode cX4_copyFrom 51 = .ok (.putfield 35, 3) := by decide +kernel
theorem dX4_copyFrom_54 : decode cX4_copyFrom 54 = .ok (.aload_n 0, 1) := by decide +kernel
theorem dX4_copyFrom_55 : decode cX4_copyFrom 55 = .ok (.aload_n 1, 1) := by decide +kernel
theorem dX4_copyFrom_56 : decode cX4_copyFrom 56 = .ok (.getfield 38, 3) := by decide +kernel
theorem dX4_copyFrom_59 : decode cX4_copyFrom 59 = .ok (.putfield 38, 3) := by decide +kernel
theorem dX4_copyFrom_62 : decode cX4_copyFrom 62 = .ok (.aload_n 1, 1) := by decide +kernel
theorem dX4_copyFrom_63 : decode cX4_copyFrom 63 = .ok (.getfield 15, 3) := by decide +kernel
theorem dX4_copyFrom_66 : decode cX4_copyFrom 66 = .ok (.iconst 0, 1) := by decide +kernel
theorem dX4_copyFrom_67 : decode cX4_copyFrom 67 = .ok (.aload_n 0, 1) := by decide +kernel
theorem dX4_copyFrom_68 : decode cX4_copyFrom 68 = .ok (.getfield 15, 3) := by decide +kernel
theorem dX4_copyFrom_71 : decode cX4_copyFrom 71 = .ok (.iconst 0, 1) := by decide +kernel
theorem dX4_copyFrom_72 : decode cX4_copyFrom 72 = .ok (.bipush 18, 2) := by decide +kernel
theorem dX4_copyFrom_74 : decode cX4_copyFrom 74 = .ok (.invokestatic 45, 3) := by decide +kernel
theorem dX4_copyFrom_77 : decode cX4_copyFrom 77 = .ok (.aload_n 0, 1) := by decide +kernel
theorem dX4_copyFrom_78 : decode cX4_copyFrom 78 = .ok (.aload_n 1, 1) := by decide +kernel
theorem dX4_copyFrom_79 : decode cX4_copyFrom 79 = .ok (.getfield 41, 3) := by decide +kernel
theorem dX4_copyFrom_82 : decode cX4_copyFrom 82 = .ok (.putfield 41, 3) := by decide +kernel
theorem dX4_copyFrom_85 : decode cX4_copyFrom 85 = .ok (.return_, 1) := by decide +kernel
theorem dX4_moveTo_0 : decode cX4_moveTo 0 = .ok (.aload_n 0, 1) := by decide +kernel
theorem dX4_moveTo_1 : decode cX4_moveTo 1 = .ok (.getfield 9, 3) := by decide +kernel
theorem dX4_moveTo_4 : decode cX4_moveTo 4 = .ok (.iconst 0, 1) := by decide +kernel
theorem dX4_moveTo_5 : decode cX4_moveTo 5 = .ok (.iload_n 1, 1) := by decide +kernel
theorem dX4_moveTo_6 : decode cX4_moveTo 6 = .ok (.iastore, 1) := by decide +kernel
theorem dX4_moveTo_7 : decode cX4_moveTo 7 = .ok (.aload_n 0, 1) := by decide +kernel
theorem dX4_moveTo_8 : decode cX4_moveTo 8 = .ok (.getfield 9, 3) := by decide +kernel
theorem dX4_moveTo_11 : decode cX4_moveTo 11 = .ok (.iconst 1, 1) := by decide +kernel
theorem dX4_moveTo_12 : decode cX4_moveTo 12 = .ok (.iload_n 2, 1) := by decide +kernel
theorem dX4_moveTo_13 : decode cX4_moveTo 13 = .ok (.iastore, 1) := by decide +kernel
theorem dX4_moveTo_14 : decode cX4_moveTo 14 = .ok (.aload_n 0, 1) := by decide +kernel
theorem dX4_moveTo_15 : decode cX4_moveTo 15 = .ok (.getfield 9, 3) := by decide +kernel
theorem dX4_moveTo_18 : decode cX4_moveTo 18 = .ok (.iconst 2, 1) := by decide +kernel
theorem dX4_moveTo_19 : decode cX4_moveTo 19 = .ok (.iload_n 3, 1) := by decide +kernel
theorem dX4_moveTo_20 : decode cX4_moveTo 20 = .ok (.iastore, 1) := by decide +kernel
theorem dX4_moveTo_21 : decode cX4_moveTo 21 = .ok (.return_, 1) := by decide +kernel
theorem dX4_forgetDirection_0 : decode cX4_forgetDirection 0 = .ok (.aload_n 0, 1) := by decide +kernel
theorem dX4_forgetDirection_1 : decode cX4_forgetDirection 1 = .ok (.getfield 35, 3) := by decide +kernel
theorem dX4_forgetDirection_4 : decode cX4_forgetDirection 4 = .ok (.iload_n 1, 1) := by decide +kernel
theorem dX4_forgetDirection_5 : decode cX4_forgetDirection 5 = .ok (.if_icmp .ne 11, 3) := by decide +kernel
theorem dX4_forgetDirection_8 : decode cX4_forgetDirection 8 = .ok (.aload_n 0, 1) := by decide +kernel
theorem dX4_forgetDirection_9 : decode cX4_forgetDirection 9 = .ok (.iconst (-1), 1) := by decide +kernel
theorem dX4_forgetDirection_10 : decode cX4_forgetDirection 10 = .ok (.putfield 35, 3) := by decide +kernel
theorem dX4_forgetDirection_13 : decode cX4_forgetDirection 13 = .ok (.goto 21, 3) := by decide +kernel
theorem dX4_forgetDirection_16 : decode cX4_forgetDirection 16 = .ok (.aload_n 0, 1) := by decide +kernel
theorem dX4_forgetDirection_17 : decode cX4_forgetDirection 17 = .ok (.getfield 35, 3) := by decide +kernel
theorem dX4_forgetDirection_20 : decode cX4_forgetDirection 20 = .ok (.iload_n 1, 1) := by decide +kernel
theorem dX4_forgetDirection_21 : decode cX4_forgetDirection 21 = .ok (.if_icmp .le 13, 3) := by decide +kernel
theorem dX4_forgetDirection_24 : decode cX4_forgetDirection 24 = .ok (.aload_n 0, 1) := by decide +kernel
theorem dX4_forgetDirection_25 : decode cX4_forgetDirection 25 = .ok (.dup, 1) := by decide +kernel
theorem dX4_forgetDirection_26 : decode cX4_forgetDirection 26 = .ok (.getfield 35, 3) := by decide +kernel
theorem dX4_forgetDirection_29 : decode cX4_forgetDirection 29 = .ok (.iconst 1, 1) := by decide +kernel
theorem dX4_forgetDirection_30 : decode cX4_forgetDirection 30 = .ok (.isub, 1) := by decide +kernel
theorem dX4_forgetDirection_31 : decode cX4_forgetDirection 31 = .ok (.putfield 35, 3) := by decide +kernel
theorem dX4_forgetDirection_34 : decode cX4_forgetDirection 34 = .ok (.return_, 1) := by decide +kernel
theorem dX4_succeed_0 : decode cX4_succeed 0 = .ok (.aload_n 0, 1) := by decide +kernel
theorem dX4_succeed_1 : decode cX4_succeed 1 = .ok (.getfield 15, 3) := by decide +kernel
theorem dX4_succeed_4 : decode cX4_succeed 4 = .ok (.iconst 0, 1) := by decide +kernel
theorem dX4_succeed_5 : decode cX4_succeed 5 = .ok (.aload_n 0, 1) := by decide +kernel
theorem dX4_succeed_6 : decode cX4_succeed 6 = .ok (.getfield 15, 3) := by decide +kernel
theorem dX4_succeed_9 : decode cX4_succeed 9 = .ok (.iconst 3, 1) := by decide +kernel
theorem dX4_succeed_10 : decode cX4_succeed 10 = .ok (.bipush 15, 2) := by decide +kernel
theorem dX4_succeed_12 : decode cX4_succeed 12 = .ok (.invokestatic 45, 3) := by decide +kernel
theorem dX4_succeed_15 : decode cX4_succeed 15 = .ok (.aload_n 0, 1) := by decide +kernel
theorem dX4_succeed_16 : decode cX4_succeed 16 = .ok (.getfield 9, 3) := by decide +kernel
theorem dX4_succeed_19 : decode cX4_succeed 19 = .ok (.iconst 0, 1) := by decide +kernel
theorem dX4_succeed_20 : decode cX4_succeed 20 = .ok (.aload_n 0, 1) := by decide +kernel
theorem dX4_succeed_21 : decode cX4_succeed 21 = .ok (.getfield 15, 3) := by decide +kernel
theorem dX4_succeed_24 : decode cX4_succeed 24 = .ok (.iconst 0, 1) := by decide +kernel
theorem dX4_succeed_25 : decode cX4_succeed 25 = .ok (.iconst 3, 1) := by decide +kernel
theorem dX4_succeed_26 : decode cX4_succeed 26 = .ok (.invokestatic 45, 3) := by decide +kernel
theorem dX4_succeed_29 : decode cX4_succeed 29 = .ok (.aload_n 0, 1) := by decide +kernel
theorem dX4_succeed_30 : decode cX4_succeed 30 = .ok (.aload_n 0, 1) := by decide +kernel
theorem dX4_succeed_31 : decode cX4_succeed 31 = .ok (.getfield 38, 3) := by decide +kernel
theorem dX4_succeed_34 : decode cX4_succeed 34 = .ok (.iconst 1, 1) := by decide +kernel
theorem dX4_succeed_35 : decode cX4_succeed 35 = .ok (.iadd, 1) := by decide +kernel
theorem dX4_succeed_36 : decode cX4_succeed 36 = .ok (.bipush 6, 2) := by decide +kernel
theorem dX4_succeed_38 : decode cX4_succeed 38 = .ok (.invokestatic 51, 3) := by decide +kernel
theorem dX4_succeed_41 : decode cX4_succeed 41 = .ok (.putfield 38, 3) := by decide +kernel
theorem dX4_succeed_44 : decode cX4_succeed 44 = .ok (.aload_n 0, 1) := by decide +kernel
theorem dX4_succeed_45 : decode cX4_succeed 45 = .ok (.iload_n 2, 1) := by decide +kernel
theorem dX4_succeed_46 : decode cX4_succeed 46 = .ok (.iload_n 3, 1) := by decide +kernel
theorem dX4_succeed_47 : decode cX4_succeed 47 = .ok (.iload 4, 2) := by decide +kernel
theorem dX4_succeed_49 : decode cX4_succeed 49 = .ok (.invokevirtual 18, 3) := by decide +kernel
theorem dX4_succeed_52 : decode cX4_succeed 52 = .ok (.aload_n 0, 1) := by decide +kernel
theorem dX4_succeed_53 : decode cX4_succeed 53 = .ok (.iconst 2, 1) := by decide +kernel
theorem dX4_succeed_54 : decode cX4_succeed 54 = .ok (.aload_n 0, 1) := by decide +kernel
theorem dX4_succeed_55 : decode cX4_succeed 55 = .ok (.getfield 22, 3) := by decide +kernel
theorem dX4_succeed_58 : decode cX4_succeed 58 = .ok (.imul, 1) := by decide +kernel
theorem dX4_succeed_59 : decode cX4_succeed 59 = .ok (.bipush 16, 2) := by decide +kernel
theorem dX4_succeed_61 : decode cX4_succeed 61 = .ok (.invokestatic 51, 3) := by decide +kernel
theorem dX4_succeed_64 : decode cX4_succeed 64 = .ok (.putfield 22, 3) := by decide +kernel
theorem dX4_succeed_67 : decode cX4_succeed 67 = .ok (.aload_n 0, 1) := by decide +kernel
theorem dX4_succeed_68 : decode cX4_succeed 68 = .ok (.dup, 1) := by decide +kernel
theorem dX4_succeed_69 : decode cX4_succeed 69 = .ok (.getfield 29, 3) := by decide +kernel
theorem dX4_succeed_72 : decode cX4_succeed 72 = .ok (.iconst 1, 1) := by decide +kernel
theorem dX4_succeed_73 : decode cX4_succeed 73 = .ok (.iadd, 1) := by decide +kernel
theorem dX4_succeed_74 : decode cX4_succeed 74 = .ok (.putfield 29, 3) := by decide +kernel
theorem dX4_succeed_77 : decode cX4_succeed 77 = .ok (.aload_n 0, 1) := by decide +kernel
theorem dX4_succeed_78 : decode cX4_succeed 78 = .ok (.iload_n 1, 1) := by decide +kernel
theorem dX4_succeed_79 : decode cX4_succeed 79 = .ok (.putfield 35, 3) := by decide +kernel
theorem dX4_succeed_82 : decode cX4_succeed 82 = .ok (.aload_n 0, 1) := by decide +kernel
theorem dX4_succeed_83 : decode cX4_succeed 83 = .ok (.iconst 0, 1) := by decide +kernel
theorem dX4_succeed_84 : decode cX4_succeed 84 = .ok (.putfield 41, 3) := by decide +kernel
theorem dX4_succeed_87 : decode cX4_succeed 87 = .ok (.return_, 1) := by decide +kernel
theorem dX4_fail_0 : decode cX4_fail 0 = .ok (.aload_n 0, 1) := by decide +kernel
theorem dX4_fail_1 : decode cX4_fail 1 = .ok (.aload_n 0, 1) := by decide +kernel
theorem dX4_fail_2 : decode cX4_fail 2 = .ok (.getfield 22, 3) := by decide +kernel
theorem dX4_fail_5 : decode cX4_fail 5 = .ok (.iconst 1, 1) := by decide +kernel
theorem dX4_fail_6 : decode cX4_fail 6 = .ok (.if_icmp .ne 7, 3) := by decide +kernel
theorem dX4_fail_9 : decode cX4_fail 9 = .ok (.iconst 1, 1) := by decide +kernel
theorem dX4_fail_10 : decode cX4_fail 10 = .ok (.goto 4, 3) := by decide +kernel
theorem dX4_fail_13 : decode cX4_fail 13 = .ok (.iconst 0, 1) := by decide +kernel
theorem dX4_fail_14 : decode cX4_fail 14 = .ok (.putfield 41, 3) := by decide +kernel
theorem dX4_fail_17 : decode cX4_fail 17 = .ok (.aload_n 0, 1) := by decide +kernel
theorem dX4_fail_18 : decode cX4_fail 18 = .ok (.aload_n 0, 1) := by decide +kernel
theorem dX4_fail_19 : decode cX4_fail 19 = .ok (.getfield 22, 3) := by decide +kernel
theorem dX4_fail_22 : decode cX4_fail 22 = .ok (.iconst 2, 1) := by decide +kernel
theorem dX4_fail_23 : decode cX4_fail 23 = .ok (.idiv, 1) := by decide +kernel
theorem dX4_fail_24 : decode cX4_fail 24 = .ok (.iconst 1, 1) := by decide +kernel
theorem dX4_fail_25 : decode cX4_fail 25 = .ok (.invokestatic 57, 3) := by decide +kernel
theorem dX4_fail_28 : decode cX4_fail 28 = .ok (.putfield 22, 3) := by decide +kernel
theorem dX4_fail_31 : decode cX4_fail 31 = .ok (.return_, 1) := by decide +kernel
theorem dX5_init_0 : decode cX5_init 0 = .ok (.aload_n 0, 1) := by decide +kernel
theorem dX5_init_1 : decode cX5_init 1 = .ok (.invokespecial 3, 3) := by decide +kernel
theorem dX5_init_4 : decode cX5_init 4 = .ok (.aload_n 0, 1) := by decide +kernel
theorem dX5_init_5 : decode cX5_init 5 = .ok (.bipush 42, 2) := by decide +kernel
theorem dX5_init_7 : decode cX5_init 7 = .ok (.newarray .int, 2) := by decide +kernel
theorem dX5_init_9 : decode cX5_init 9 = .ok (.putfield 9, 3) := by decide +kernel
theorem dX5_init_12 : decode cX5_init 12 = .ok (.aload_n 0, 1) := by decide +kernel
theorem dX5_init_13 : decode cX5_init 13 = .ok (.iconst 3, 1) := by decide +kernel
theorem dX5_init_14 : decode cX5_init 14 = .ok (.newarray .int, 2) := by decide +kernel
theorem dX5_init_16 : decode cX5_init 16 = .ok (.putfield 15, 3) := by decide +kernel
theorem dX5_init_19 : decode cX5_init 19 = .ok (.return_, 1) := by decide +kernel
theorem dX5_isWhole_0 : decode cX5_isWhole 0 = .ok (.aload_n 0, 1) := by decide +kernel
theorem dX5_isWhole_1 : decode cX5_isWhole 1 = .ok (.aload_n 1, 1) := by decide +kernel
theorem dX5_isWhole_2 : decode cX5_isWhole 2 = .ok (.iload_n 2, 1) := by decide +kernel
theorem dX5_isWhole_3 : decode cX5_isWhole 3 = .ok (.invokevirtual 18, 3) := by decide +kernel
theorem dX5_isWhole_6 : decode cX5_isWhole 6 = .ok (.iconst 0, 1) := by decide +kernel
theorem dX5_isWhole_7 : decode cX5_isWhole 7 = .ok (.istore_n 3, 1) := by decide +kernel
theorem dX5_isWhole_8 : decode cX5_isWhole 8 = .ok (.iconst 0, 1) := by decide +kernel
theorem dX5_isWhole_9 : decode cX5_isWhole 9 = .ok (.istore 4, 2) := by decide +kernel
theorem dX5_isWhole_11 : decode cX5_isWhole 11 = .ok (.iload 4, 2) := by decide +kernel
theorem dX5_isWhole_13 : decode cX5_isWhole 13 = .ok (.aload_n 0, 1) := by decide +kernel
theorem dX5_isWhole_14 : decode cX5_isWhole 14 = .ok (.getfield 22, 3) := by decide +kernel
theorem dX5_isWhole_17 : decode cX5_isWhole 17 = .ok (.if_icmp .ge 56, 3) := by decide +kernel
theorem dX5_isWhole_20 : decode cX5_isWhole 20 = .ok (.iload 4, 2) := by decide +kernel
theorem dX5_isWhole_22 : decode cX5_isWhole 22 = .ok (.iconst 1, 1) := by decide +kernel
theorem dX5_isWhole_23 : decode cX5_isWhole 23 = .ok (.iadd, 1) := by decide +kernel
theorem dX5_isWhole_24 : decode cX5_isWhole 24 = .ok (.istore 5, 2) := by decide +kernel
theorem dX5_isWhole_26 : decode cX5_isWhole 26 = .ok (.iload 5, 2) := by decide +kernel
theorem dX5_isWhole_28 : decode cX5_isWhole 28 = .ok (.aload_n 0, 1) := by decide +kernel
theorem dX5_isWhole_29 : decode cX5_isWhole 29 = .ok (.getfield 22, 3) := by decide +kernel
theorem dX5_isWhole_32 : decode cX5_isWhole 32 = .ok (.if_icmp .ge 35, 3) := by decide +kernel
theorem dX5_isWhole_35 : decode cX5_isWhole 35 = .ok (.aload_n 0, 1) := by decide +kernel
theorem dX5_isWhole_36 : decode cX5_isWhole 36 = .ok (.iconst 3, 1) := by decide +kernel
theorem dX5_isWhole_37 : decode cX5_isWhole 37 = .ok (.iload 4, 2) := by decide +kernel
theorem dX5_isWhole_39 : decode cX5_isWhole 39 = .ok (.imul, 1) := by decide +kernel
theorem dX5_isWhole_40 : decode cX5_isWhole 40 = .ok (.iconst 3, 1) := by decide +kernel
theorem dX5_isWhole_41 : decode cX5_isWhole 41 = .ok (.iload 5, 2) := by decide +kernel
theorem dX5_isWhole_43 : decode cX5_isWhole 43 = .ok (.imul, 1) := by decide +kernel
theorem dX5_isWhole_44 : decode cX5_isWhole 44 = .ok (.invokevirtual 26, 3) := by decide +kernel
theorem dX5_isWhole_47 : decode cX5_isWhole 47 = .ok (.ifCond .eq 14, 3) := by decide +kernel
theorem dX5_isWhole_50 : decode cX5_isWhole 50 = .ok (.iconst 1, 1) := by decide +kernel
theorem dX5_isWhole_51 : decode cX5_isWhole 51 = .ok (.istore_n 3, 1) := by decide +kernel
theorem dX5_isWhole_52 : decode cX5_isWhole 52 = .ok (.aload_n 0, 1) := by decide +kernel
theorem dX5_isWhole_53 : decode cX5_isWhole 53 = .ok (.invokevirtual 30, 3) := by decide +kernel
theorem dX5_isWhole_56 : decode cX5_isWhole 56 = .ok (.ifCond .ne 5, 3) := by decide +kernel
theorem dX5_isWhole_59 : decode cX5_isWhole 59 = .ok (.iconst 0, 1) := by decide +kernel
theorem dX5_isWhole_60 : decode cX5_isWhole 60 = .ok (.ireturn, 1) := by decide +kernel
theorem dX5_isWhole_61 : decode cX5_isWhole 61 = .ok (.iinc 5 1, 3) := by decide +kernel
theorem dX5_isWhole_64 : decode cX5_isWhole 64 = .ok (.goto (-38), 3) := by decide +kernel
theorem dX5_isWhole_67 : decode cX5_isWhole 67 = .ok (.iinc 4 1, 3) := by decide +kernel
theorem dX5_isWhole_70 : decode cX5_isWhole 70 = .ok (.goto (-59), 3) := by decide +kernel
theorem dX5_isWhole_73 : decode cX5_isWhole 73 = .ok (.iload_n 3, 1) := by decide +kernel
theorem dX5_isWhole_74 : decode cX5_isWhole 74 = .ok (.ireturn, 1) := by decide +kernel
theorem dX5_fill_0 : decode cX5_fill 0 = .ok (.aload_n 0, 1) := by decide +kernel
theorem dX5_fill_1 : decode cX5_fill 1 = .ok (.aload_n 1, 1) := by decide +kernel
theorem dX5_fill_2 : decode cX5_fill 2 = .ok (.getfield 34, 3) := by decide +kernel
theorem dX5_fill_5 : decode cX5_fill 5 = .ok (.putfield 22, 3) := by decide +kernel
theorem dX5_fill_8 : decode cX5_fill 8 = .ok (.aload_n 1, 1) := by decide +kernel
theorem dX5_fill_9 : decode cX5_fill 9 = .ok (.getfield 37, 3) := by decide +kernel
theorem dX5_fill_12 : decode cX5_fill 12 = .ok (.iconst 0, 1) := by decide +kernel
theorem dX5_fill_13 : decode cX5_fill 13 = .ok (.aload_n 0, 1) := by decide +kernel
theorem dX5_fill_14 : decode cX5_fill 14 = .ok (.getfield 9, 3) := by decide +kernel
theorem dX5_fill_17 : decode cX5_fill 17 = .ok (.iconst 0, 1) := by decide +kernel
theorem dX5_fill_18 : decode cX5_fill 18 = .ok (.iconst 3, 1) := by decide +kernel
theorem dX5_fill_19 : decode cX5_fill 19 = .ok (.aload_n 0, 1) := by decide +kernel
theorem dX5_fill_20 : decode cX5_fill 20 = .ok (.getfield 22, 3) := by decide +kernel
theorem dX5_fill_23 : decode cX5_fill 23 = .ok (.imul, 1) := by decide +kernel
theorem dX5_fill_24 : decode cX5_fill 24 = .ok (.invokestatic 40, 3) := by decide +kernel
theorem dX5_fill_27 : decode cX5_fill 27 = .ok (.iload_n 2, 1) := by decide +kernel
theorem dX5_fill_28 : decode cX5_fill 28 = .ok (.istore_n 3, 1) := by decide +kernel
theorem dX5_fill_29 : decode cX5_fill 29 = .ok (.iload_n 3, 1) := by decide +kernel
theorem dX5_fill_30 : decode cX5_fill 30 = .ok (.iconst 3, 1) := by decide +kernel
theorem dX5_fill_31 : decode cX5_fill 31 = .ok (.if_icmp .ge 21, 3) := by decide +kernel
theorem dX5_fill_34 : decode cX5_fill 34 = .ok (.aload_n 0, 1) := by decide +kernel
theorem dX5_fill_35 : decode cX5_fill 35 = .ok (.iload_n 3, 1) := by decide +kernel
theorem dX5_fill_36 : decode cX5_fill 36 = .ok (.iconst 1, 1) := by decide +kernel
theorem dX5_fill_37 : decode cX5_fill 37 = .ok (.invokevirtual 46, 3) := by decide +kernel
theorem dX5_fill_40 : decode cX5_fill 40 = .ok (.aload_n 0, 1) := by decide +kernel
theorem dX5_fill_41 : decode cX5_fill 41 = .ok (.iload_n 3, 1) := by decide +kernel
theorem dX5_fill_42 : decode cX5_fill 42 = .ok (.iconst (-1), 1) := by decide +kernel
theorem dX5_fill_43 : decode cX5_fill 43 = .ok (.invokevirtual 46, 3) := by decide +kernel
theorem dX5_fill_46 : decode cX5_fill 46 = .ok (.iinc 3 1, 3) := by decide +kernel
theorem dX5_fill_49 : decode cX5_fill 49 = .ok (.goto (-20), 3) := by decide +kernel
theorem dX5_fill_52 : decode cX5_fill 52 = .ok (.return_, 1) := by decide +kernel
theorem dX5_addAlong_0 : decode cX5_addAlong 0 = .ok (.iconst 0, 1) := by decide +kernel
theorem dX5_addAlong_1 : decode cX5_addAlong 1 = .ok (.istore_n 3, 1) := by decide +kernel
theorem dX5_addAlong_2 : decode cX5_addAlong 2 = .ok (.iload_n 3, 1) := by decide +kernel
theorem dX5_addAlong_3 : decode cX5_addAlong 3 = .ok (.iconst 3, 1) := by decide +kernel
theorem dX5_addAlong_4 : decode cX5_addAlong 4 = .ok (.if_icmp .ge 32, 3) := by decide +kernel
theorem dX5_addAlong_7 : decode cX5_addAlong 7 = .ok (.aload_n 0, 1) := by decide +kernel
theorem dX5_addAlong_8 : decode cX5_addAlong 8 = .ok (.getfield 9, 3) := by decide +kernel
theorem dX5_addAlong_11 : decode cX5_addAlong 11 = .ok (.iconst 3, 1) := by decide +kernel
theorem dX5_addAlong_12 : decode cX5_addAlong 12 = .ok (.aload_n 0, 1) := by decide +kernel
theorem dX5_addAlong_13 : decode cX5_addAlong 13 = .ok (.getfield 22, 3) := by decide +kernel
theorem dX5_addAlong_16 : decode cX5_addAlong 16 = .ok (.imul, 1) := by decide +kernel
theorem dX5_addAlong_17 : decode cX5_addAlong 17 = .ok (.iload_n 3, 1) := by decide +kernel
theorem dX5_addAlong_18 : decode cX5_addAlong 18 = .ok (.iadd, 1) := by decide +kernel
theorem dX5_addAlong_19 : decode cX5_addAlong 19 = .ok (.iload_n 3, 1) := by decide +kernel
theorem dX5_addAlong_20 : decode cX5_addAlong 20 = .ok (.iload_n 1, 1) := by decide +kernel
theorem dX5_addAlong_21 : decode cX5_addAlong 21 = .ok (.if_icmp .ne 7, 3) := by decide +kernel
theorem dX5_addAlong_24 : decode cX5_addAlong 24 = .ok (.iload_n 2, 1) := by decide +kernel
theorem dX5_addAlong_25 : decode cX5_addAlong 25 = .ok (.goto 4, 3) := by decide +kernel
theorem dX5_addAlong_28 : decode cX5_addAlong 28 = .ok (.iconst 0, 1) := by decide +kernel
theorem dX5_addAlong_29 : decode cX5_addAlong 29 = .ok (.iastore, 1) := by decide +kernel
theorem dX5_addAlong_30 : decode cX5_addAlong 30 = .ok (.iinc 3 1, 3) := by decide +kernel
theorem dX5_addAlong_33 : decode cX5_addAlong 33 = .ok (.goto (-31), 3) := by decide +kernel
theorem dX5_addAlong_36 : decode cX5_addAlong 36 = .ok (.aload_n 0, 1) := by decide +kernel
theorem dX5_addAlong_37 : decode cX5_addAlong 37 = .ok (.dup, 1) := by decide +kernel
theorem dX5_addAlong_38 : decode cX5_addAlong 38 = .ok (.getfield 22, 3) := by decide +kernel
theorem dX5_addAlong_41 : decode cX5_addAlong 41 = .ok (.iconst 1, 1) := by decide +kernel
theorem dX5_addAlong_42 : decode cX5_addAlong 42 = .ok (.iadd, 1) := by decide +kernel
theorem dX5_addAlong_43 : decode cX5_addAlong 43 = .ok (.putfield 22, 3) := by decide +kernel
theorem dX5_addAlong_46 : decode cX5_addAlong 46 = .ok (.return_, 1) := by decide +kernel
theorem dX5_findNormal_0 : decode cX5_findNormal 0 = .ok (.aload_n 0, 1) := by decide +kernel
theorem dX5_findNormal_1 : decode cX5_findNormal 1 = .ok (.getfield 15, 3) := by decide +kernel
theorem dX5_findNormal_4 : decode cX5_findNormal 4 = .ok (.iconst 0, 1) := by decide +kernel
theorem dX5_findNormal_5 : decode cX5_findNormal 5 = .ok (.aload_n 0, 1) := by decide +kernel
theorem dX5_findNormal_6 : decode cX5_findNormal 6 = .ok (.getfield 9, 3) := by decide +kernel
theorem dX5_findNormal_9 : decode cX5_findNormal 9 = .ok (.iload_n 1, 1) := by decide +kernel
theorem dX5_findNormal_10 : decode cX5_findNormal 10 = .ok (.iconst 1, 1) := by decide +kernel
theorem dX5_findNormal_11 : decode cX5_findNormal 11 = .ok (.iadd, 1) := by decide +kernel
theorem dX5_findNormal_12 : decode cX5_findNormal 12 = .ok (.iaload, 1) := by decide +kernel
theorem dX5_findNormal_13 : decode cX5_findNormal 13 = .ok (.aload_n 0, 1) := by decide +kernel
theorem dX5_findNormal_14 : decode cX5_findNormal 14 = .ok (.getfield 9, 3) := by decide +kernel
theorem dX5_findNormal_17 : decode cX5_findNormal 17 = .ok (.iload_n 2, 1) := by decide +kernel
theorem dX5_findNormal_18 : decode cX5_findNormal 18 = .ok (.iconst 2, 1) := by decide +kernel
theorem dX5_findNormal_19 : decode cX5_findNormal 19 = .ok (.iadd, 1) := by decide +kernel
theorem dX5_findNormal_20 : decode cX5_findNormal 20 = .ok (.iaload, 1) := by decide +kernel
theorem dX5_findNormal_21 : decode cX5_findNormal 21 = .ok (.imul, 1) := by decide +kernel
theorem dX5_findNormal_22 : decode cX5_findNormal 22 = .ok (.aload_n 0, 1) := by decide +kernel
theorem dX5_findNormal_23 : decode cX5_findNormal 23 = .ok (.getfield 9, 3) := by decide +kernel
theorem dX5_findNormal_26 : decode cX5_findNormal 26 = .ok (.iload_n 1, 1) := by decide +kernel
theorem dX5_findNormal_27 : decode cX5_findNormal 27 = .ok (.iconst 2, 1) := by decide +kernel
theorem dX5_findNormal_28 : decode cX5_findNormal 28 = .ok (.iadd, 1) := by decide +kernel
theorem dX5_findNormal_29 : decode cX5_findNormal 29 = .ok (.iaload, 1) := by decide +kernel
theorem dX5_findNormal_30 : decode cX5_findNormal 30 = .ok (.aload_n 0, 1) := by decide +kernel
theorem dX5_findNormal_31 : decode cX5_findNormal 31 = .ok (.getfield 9, 3) := by decide +kernel
theorem dX5_findNormal_34 : decode cX5_findNormal 34 = .ok (.iload_n 2, 1) := by decide +kernel
theorem dX5_findNormal_35 : decode cX5_findNormal 35 = .ok (.iconst 1, 1) := by decide +kernel
theorem dX5_findNormal_36 : decode cX5_findNormal 36 = .ok (.iadd, 1) := by decide +kernel
theorem dX5_findNormal_37 : decode cX5_findNormal 37 = .ok (.iaload, 1) := by decide +kernel
theorem dX5_findNormal_38 : decode cX5_findNormal 38 = .ok (.imul, 1) := by decide +kernel
theorem dX5_findNormal_39 : decode cX5_findNormal 39 = .ok (.isub, 1) := by decide +kernel
theorem dX5_findNormal_40 : decode cX5_findNormal 40 = .ok (.iastore, 1) := by decide +kernel
theorem dX5_findNormal_41 : decode cX5_findNormal 41 = .ok (.aload_n 0, 1) := by decide +kernel
theorem dX5_findNormal_42 : decode cX5_findNormal 42 = .ok (.getfield 15, 3) := by decide +kernel
theorem dX5_findNormal_45 : decode cX5_findNormal 45 = .ok (.iconst 1, 1) := by decide +kernel
theorem dX5_findNormal_46 : decode cX5_findNormal 46 = .ok (.aload_n 0, 1) := by decide +kernel
theorem dX5_findNormal_47 : decode cX5_findNormal 47 = .ok (.getfield 9, 3) := by decide +kernel
theorem dX5_findNormal_50 : decode cX5_findNormal 50 = .ok (.iload_n 1, 1) := by decide +kernel
theorem dX5_findNormal_51 : decode cX5_findNormal 51 = .ok (.iconst 2, 1) := by decide +kernel
theorem dX5_findNormal_52 : decode cX5_findNormal 52 = .ok (.iadd, 1) := by decide +kernel
theorem dX5_findNormal_53 : decode cX5_findNormal 53 = .ok (.iaload, 1) := by decide +kernel
theorem dX5_findNormal_54 : decode cX5_findNormal 54 = .ok (.aload_n 0, 1) := by decide +kernel
theorem dX5_findNormal_55 : decode cX5_findNormal 55 = .ok (.getfield 9, 3) := by decide +kernel
theorem dX5_findNormal_58 : decode cX5_findNormal 58 = .ok (.iload_n 2, 1) := by decide +kernel
theorem dX5_findNormal_59 : decode cX5_findNormal 59 = .ok (.iaload, 1) := by decide +kernel
theorem dX5_findNormal_60 : decode cX5_findNormal 60 = .ok (.imul, 1) := by decide +kernel
theorem dX5_findNormal_61 : decode cX5_findNormal 61 = .ok (.aload_n 0, 1) := by decide +kernel
theorem dX5_findNormal_62 : decode cX5_findNormal 62 = .ok (.getfield 9, 3) := by decide +kernel
theorem dX5_findNormal_65 : decode cX5_findNormal 65 = .ok (.iload_n 1, 1) := by decide +kernel
theorem dX5_findNormal_66 : decode cX5_findNormal 66 = .ok (.iaload, 1) := by decide +kernel
theorem dX5_findNormal_67 : decode cX5_findNormal 67 = .ok (.aload_n 0, 1) := by decide +kernel
theorem dX5_findNormal_68 : decode cX5_findNormal 68 = .ok (.getfield 9, 3) := by decide +kernel
theorem dX5_findNormal_71 : decode cX5_findNormal 71 = .ok (.iload_n 2, 1) := by decide +kernel
theorem dX5_findNormal_72 : decode cX5_findNormal 72 = .ok (.iconst 2, 1) := by decide +kernel
theorem dX5_findNormal_73 : decode cX5_findNormal 73 = .ok (.iadd, 1) := by decide +kernel
theorem dX5_findNormal_74 : decode cX5_findNormal 74 = .ok (.iaload, 1) := by decide +kernel
theorem dX5_findNormal_75 : decode cX5_findNormal 75 = .ok (.imul, 1) := by decide +kernel
theorem dX5_findNormal_76 : decode cX5_findNormal 76 = .ok (.isub, 1) := by decide +kernel
theorem dX5_findNormal_77 : decode cX5_findNormal 77 = .ok (.iastore, 1) := by decide +kernel
theorem dX5_findNormal_78 : decode cX5_findNormal 78 = .ok (.aload_n 0, 1) := by decide +kernel
theorem dX5_findNormal_79 : decode cX5_findNormal 79 = .ok (.getfield 15, 3) := by decide +kernel
theorem dX5_findNormal_82 : decode cX5_findNormal 82 = .ok (.iconst 2, 1) := by decide +kernel
theorem dX5_findNormal_83 : decode cX5_findNormal 83 = .ok (.aload_n 0, 1) := by decide +kernel
theorem dX5_findNormal_84 : decode cX5_findNormal 84 = .ok (.getfield 9, 3) := by decide +kernel
theorem dX5_findNormal_87 : decode cX5_findNormal 87 = .ok (.iload_n 1, 1) := by decide +kernel
theorem dX5_findNormal_88 : decode cX5_findNormal 88 = .ok (.iaload, 1) := by decide +kernel
theorem dX5_findNormal_89 : decode cX5_findNormal 89 = .ok (.aload_n 0, 1) := by decide +kernel
theorem dX5_findNormal_90 : decode cX5_findNormal 90 = .ok (.getfield 9, 3) := by decide +kernel
theorem dX5_findNormal_93 : decode cX5_findNormal 93 = .ok (.iload_n 2, 1) := by decide +kernel
theorem dX5_findNormal_94 : decode cX5_findNormal 94 = .ok (.iconst 1, 1) := by decide +kernel
theorem dX5_findNormal_95 : decode cX5_findNormal 95 = .ok (.iadd, 1) := by decide +kernel
theorem dX5_findNormal_96 : decode cX5_findNormal 96 = .ok (.iaload, 1) := by decide +kernel
theorem dX5_findNormal_97 : decode cX5_findNormal 97 = .ok (.imul, 1) := by decide +kernel
theorem dX5_findNormal_98 : decode cX5_findNormal 98 = .ok (.aload_n 0, 1) := by decide +kernel
theorem dX5_findNormal_99 : decode cX5_findNormal 99 = .ok (.getfield 9, 3) := by decide +kernel
theorem dX5_findNormal_102 : decode cX5_findNormal 102 = .ok (.iload_n 1, 1) := by decide +kernel
theorem dX5_findNormal_103 : decode cX5_findNormal 103 = .ok (.iconst 1, 1) := by decide +kernel
theorem dX5_findNormal_104 : decode cX5_findNormal 104 = .ok (.iadd, 1) := by decide +kernel
theorem dX5_findNormal_105 : decode cX5_findNormal 105 = .ok (.iaload, 1) := by decide +kernel
theorem dX5_findNormal_106 : decode cX5_findNormal 106 = .ok (.aload_n 0, 1) := by decide +kernel
theorem dX5_findNormal_107 : decode cX5_findNormal 107 = .ok (.getfield 9, 3) := by decide +kernel
theorem dX5_findNormal_110 : decode cX5_findNormal 110 = .ok (.iload_n 2, 1) := by decide +kernel
theorem dX5_findNormal_111 : decode cX5_findNormal 111 = .ok (.iaload, 1) := by decide +kernel
theorem dX5_findNormal_112 : decode cX5_findNormal 112 = .ok (.imul, 1) := by decide +kernel
theorem dX5_findNormal_113 : decode cX5_findNormal 113 = .ok (.isub, 1) := by decide +kernel
theorem dX5_findNormal_114 : decode cX5_findNormal 114 = .ok (.iastore, 1) := by decide +kernel
theorem dX5_findNormal_115 : decode cX5_findNormal 115 = .ok (.aload_n 0, 1) := by decide +kernel
theorem dX5_findNormal_116 : decode cX5_findNormal 116 = .ok (.getfield 15, 3) := by decide +kernel
theorem dX5_findNormal_119 : decode cX5_findNormal 119 = .ok (.iconst 0, 1) := by decide +kernel
theorem dX5_findNormal_120 : decode cX5_findNormal 120 = .ok (.iaload, 1) := by decide +kernel
theorem dX5_findNormal_121 : decode cX5_findNormal 121 = .ok (.ifCond .ne 21, 3) := by decide +kernel
theorem dX5_findNormal_124 : decode cX5_findNormal 124 = .ok (.aload_n 0, 1) := by decide +kernel
theorem dX5_findNormal_125 : decode cX5_findNormal 125 = .ok (.getfield 15, 3) := by decide +kernel
theorem dX5_findNormal_128 : decode cX5_findNormal 128 = .ok (.iconst 1, 1) := by decide +kernel
theorem dX5_findNormal_129 : decode cX5_findNormal 129 = .ok (.iaload, 1) := by decide +kernel
theorem dX5_findNormal_130 : decode cX5_findNormal 130 = .ok (.ifCond .ne 12, 3) := by decide +kernel
theorem dX5_findNormal_133 : decode cX5_findNormal 133 = .ok (.aload_n 0, 1) := by decide +kernel
theorem dX5_findNormal_134 : decode cX5_findNormal 134 = .ok (.getfield 15, 3) := by decide +kernel
theorem dX5_findNormal_137 : decode cX5_findNormal 137 = .ok (.iconst 2, 1) := by decide +kernel
theorem dX5_findNormal_138 : decode cX5_findNormal 138 = .ok (.iaload, 1) := by decide +kernel
theorem dX5_findNormal_139 : decode cX5_findNormal 139 = .ok (.ifCond .eq 7, 3) := by decide +kernel
theorem dX5_findNormal_142 : decode cX5_findNormal 142 = .ok (.iconst 1, 1) := by decide +kernel
theorem dX5_findNormal_143 : decode cX5_findNormal 143 = .ok (.goto 4, 3) := by decide +kernel
theorem dX5_findNormal_146 : decode cX5_findNormal 146 = .ok (.iconst 0, 1) := by decide +kernel
theorem dX5_findNormal_147 : decode cX5_findNormal 147 = .ok (.ireturn, 1) := by decide +kernel
theorem dX5_hasRowsOnBothSides_0 : decode cX5_hasRowsOnBothSides 0 = .ok (.iconst 0, 1) := by decide +kernel
theorem dX5_hasRowsOnBothSides_1 : decode cX5_hasRowsOnBothSides 1 = .ok (.istore_n 1, 1) := by decide +kernel
theorem dX5_hasRowsOnBothSides_2 : decode cX5_hasRowsOnBothSides 2 = .ok (.iconst 0, 1) := by decide +kernel
theorem dX5_hasRowsOnBothSides_3 : decode cX5_hasRowsOnBothSides 3 = .ok (.istore_n 2, 1) := by decide +kernel
theorem dX5_hasRowsOnBothSides_4 : decode cX5_hasRowsOnBothSides 4 = .ok (.iconst 0, 1) := by decide +kernel
theorem dX5_hasRowsOnBothSides_5 : decode cX5_hasRowsOnBothSides 5 = .ok (.istore_n 3, 1) := by decide +kernel
theorem dX5_hasRowsOnBothSides_6 : decode cX5_hasRowsOnBothSides 6 = .ok (.iload_n 3, 1) := by decide +kernel
theorem dX5_hasRowsOnBothSides_7 : decode cX5_hasRowsOnBothSides 7 = .ok (.aload_n 0, 1) := by decide +kernel
theorem dX5_hasRowsOnBothSides_8 : decode cX5_hasRowsOnBothSides 8 = .ok (.getfield 22, 3) := by decide +kernel
theorem dX5_hasRowsOnBothSides_11 : decode cX5_hasRowsOnBothSides 11 = .ok (.if_icmp .ge 94, 3) := by decide +kernel
theorem dX5_hasRowsOnBothSides_14 : decode cX5_hasRowsOnBothSides 14 = .ok (.iconst 3, 1) := by decide +kernel
theorem dX5_hasRowsOnBothSides_15 : decode cX5_hasRowsOnBothSides 15 = .ok (.iload_n 3, 1) := by decide +kernel
theorem dX5_hasRowsOnBothSides_16 : decode cX5_hasRowsOnBothSides 16 = .ok (.imul, 1) := by decide +kernel
theorem dX5_hasRowsOnBothSides_17 : decode cX5_hasRowsOnBothSides 17 = .ok (.istore 4, 2) := by decide +kernel
theorem dX5_hasRowsOnBothSides_19 : decode cX5_hasRowsOnBothSides 19 = .ok (.aload_n 0, 1) := by decide +kernel
theorem dX5_hasRowsOnBothSides_20 : decode cX5_hasRowsOnBothSides 20 = .ok (.getfield 15, 3) := by decide +kernel
theorem dX5_hasRowsOnBothSides_23 : decode cX5_hasRowsOnBothSides 23 = .ok (.iconst 0, 1) := by decide +kernel
theorem dX5_hasRowsOnBothSides_24 : decode cX5_hasRowsOnBothSides 24 = .ok (.iaload, 1) := by decide +kernel
theorem dX5_hasRowsOnBothSides_25 : decode cX5_hasRowsOnBothSides 25 = .ok (.aload_n 0, 1) := by decide +kernel
theorem dX5_hasRowsOnBothSides_26 : decode cX5_hasRowsOnBothSides 26 = .ok (.getfield 9, 3) := by decide +kernel
theorem dX5_hasRowsOnBothSides_29 : decode cX5_hasRowsOnBothSides 29 = .ok (.iload 4, 2) := by decide +kernel
theorem dX5_hasRowsOnBothSides_31 : decode cX5_hasRowsOnBothSides 31 = .ok (.iaload, 1) := by decide +kernel
theorem dX5_hasRowsOnBothSides_32 : decode cX5_hasRowsOnBothSides 32 = .ok (.imul, 1) := by decide +kernel
theorem dX5_hasRowsOnBothSides_33 : decode cX5_hasRowsOnBothSides 33 = .ok (.aload_n 0, 1) := by decide +kernel
theorem dX5_hasRowsOnBothSides_34 : decode cX5_hasRowsOnBothSides 34 = .ok (.getfield 15, 3) := by decide +kernel
theorem dX5_hasRowsOnBothSides_37 : decode cX5_hasRowsOnBothSides 37 = .ok (.iconst 1, 1) := by decide +kernel
theorem dX5_hasRowsOnBothSides_38 : decode cX5_hasRowsOnBothSides 38 = .ok (.iaload, 1) := by decide +kernel
theorem dX5_hasRowsOnBothSides_39 : decode cX5_hasRowsOnBothSides 39 = .ok (.aload_n 0, 1) := by decide +kernel
theorem dX5_hasRowsOnBothSides_40 : decode cX5_hasRowsOnBothSides 40 = .ok (.getfield 9, 3) := by decide +kernel
theorem dX5_hasRowsOnBothSides_43 : decode cX5_hasRowsOnBothSides 43 = .ok (.iload 4, 2) := by decide +kernel
theorem dX5_hasRowsOnBothSides_45 : decode cX5_hasRowsOnBothSides 45 = .ok (.iconst 1, 1) := by decide +kernel
theorem dX5_hasRowsOnBothSides_46 : decode cX5_hasRowsOnBothSides 46 = .ok (.iadd, 1) := by decide +kernel
theorem dX5_hasRowsOnBothSides_47 : decode cX5_hasRowsOnBothSides 47 = .ok (.iaload, 1) := by decide +kernel
theorem dX5_hasRowsOnBothSides_48 : decode cX5_hasRowsOnBothSides 48 = .ok (.imul, 1) := by decide +kernel
theorem dX5_hasRowsOnBothSides_49 : decode cX5_hasRowsOnBothSides 49 = .ok (.iadd, 1) := by decide +kernel
theorem dX5_hasRowsOnBothSides_50 : decode cX5_hasRowsOnBothSides 50 = .ok (.aload_n 0, 1) := by decide +kernel
theorem dX5_hasRowsOnBothSides_51 : decode cX5_hasRowsOnBothSides 51 = .ok (.getfield 15, 3) := by decide +kernel
theorem dX5_hasRowsOnBothSides_54 : decode cX5_hasRowsOnBothSides 54 = .ok (.iconst 2, 1) := by decide +kernel
theorem dX5_hasRowsOnBothSides_55 : decode cX5_hasRowsOnBothSides 55 = .ok (.iaload, 1) := by decide +kernel
theorem dX5_hasRowsOnBothSides_56 : decode cX5_hasRowsOnBothSides 56 = .ok (.aload_n 0, 1) := by decide +kernel
theorem dX5_hasRowsOnBothSides_57 : decode cX5_hasRowsOnBothSides 57 = .ok (.getfield 9, 3) := by decide +kernel
theorem dX5_hasRowsOnBothSides_60 : decode cX5_hasRowsOnBothSides 60 = .ok (.iload 4, 2) := by decide +kernel
theorem dX5_hasRowsOnBothSides_62 : decode cX5_hasRowsOnBothSides 62 = .ok (.iconst 2, 1) := by decide +kernel
theorem dX5_hasRowsOnBothSides_63 : decode cX5_hasRowsOnBothSides 63 = .ok (.iadd, 1) := by decide +kernel
theorem dX5_hasRowsOnBothSides_64 : decode cX5_hasRowsOnBothSides 64 = .ok (.iaload, 1) := by decide +kernel
theorem dX5_hasRowsOnBothSides_65 : decode cX5_hasRowsOnBothSides 65 = .ok (.imul, 1) := by decide +kernel
theorem dX5_hasRowsOnBothSides_66 : decode cX5_hasRowsOnBothSides 66 = .ok (.iadd, 1) := by decide +kernel
theorem dX5_hasRowsOnBothSides_67 : decode cX5_hasRowsOnBothSides 67 = .ok (.istore 5, 2) := by decide +kernel
theorem dX5_hasRowsOnBothSides_69 : decode cX5_hasRowsOnBothSides 69 = .ok (.iload_n 1, 1) := by decide +kernel
theorem dX5_hasRowsOnBothSides_70 : decode cX5_hasRowsOnBothSides 70 = .ok (.ifCond .ne 8, 3) := by decide +kernel
theorem dX5_hasRowsOnBothSides_73 : decode cX5_hasRowsOnBothSides 73 = .ok (.iload 5, 2) := by decide +kernel
theorem dX5_hasRowsOnBothSides_75 : decode cX5_hasRowsOnBothSides 75 = .ok (.ifCond .le 7, 3) := by decide +kernel
theorem dX5_hasRowsOnBothSides_78 : decode cX5_hasRowsOnBothSides 78 = .ok (.iconst 1, 1) := by decide +kernel
theorem dX5_hasRowsOnBothSides_79 : decode cX5_hasRowsOnBothSides 79 = .ok (.goto 4, 3) := by decide +kernel
theorem dX5_hasRowsOnBothSides_82 : decode cX5_hasRowsOnBothSides 82 = .ok (.iconst 0, 1) := by decide +kernel
theorem dX5_hasRowsOnBothSides_83 : decode cX5_hasRowsOnBothSides 83 = .ok (.istore_n 1, 1) := by decide +kernel
theorem dX5_hasRowsOnBothSides_84 : decode cX5_hasRowsOnBothSides 84 = .ok (.iload_n 2, 1) := by decide +kernel
theorem dX5_hasRowsOnBothSides_85 : decode cX5_hasRowsOnBothSides 85 = .ok (.ifCond .ne 8, 3) := by decide +kernel
theorem dX5_hasRowsOnBothSides_88 : decode cX5_hasRowsOnBothSides 88 = .ok (.iload 5, 2) := by decide +kernel
theorem dX5_hasRowsOnBothSides_90 : decode cX5_hasRowsOnBothSides 90 = .ok (.ifCond .ge 7, 3) := by decide +kernel
theorem dX5_hasRowsOnBothSides_93 : decode cX5_hasRowsOnBothSides 93 = .ok (.iconst 1, 1) := by decide +kernel
theorem dX5_hasRowsOnBothSides_94 : decode cX5_hasRowsOnBothSides 94 = .ok (.goto 4, 3) := by decide +kernel
theorem dX5_hasRowsOnBothSides_97 : decode cX5_hasRowsOnBothSides 97 = .ok (.iconst 0, 1) := by decide +kernel
theorem dX5_hasRowsOnBothSides_98 : decode cX5_hasRowsOnBothSides 98 = .ok (.istore_n 2, 1) := by decide +kernel
theorem dX5_hasRowsOnBothSides_99 : decode cX5_hasRowsOnBothSides 99 = .ok (.iinc 3 1, 3) := by decide +kernel
theorem dX5_hasRowsOnBothSides_102 : decode cX5_hasRowsOnBothSides 102 = .ok (.goto (-96), 3) := by decide +kernel
theorem dX5_hasRowsOnBothSides_105 : decode cX5_hasRowsOnBothSides 105 = .ok (.iload_n 1, 1) := by decide +kernel
theorem dX5_hasRowsOnBothSides_106 : decode cX5_hasRowsOnBothSides 106 = .ok (.ifCond .eq 11, 3) := by decide +kernel
theorem dX5_hasRowsOnBothSides_109 : decode cX5_hasRowsOnBothSides 109 = .ok (.iload_n 2, 1) := by decide +kernel
theorem dX5_hasRowsOnBothSides_110 : decode cX5_hasRowsOnBothSides 110 = .ok (.ifCond .eq 7, 3) := by decide +kernel
theorem dX5_hasRowsOnBothSides_113 : decode cX5_hasRowsOnBothSides 113 = .ok (.iconst 1, 1) := by decide +kernel
theorem dX5_hasRowsOnBothSides_114 : decode cX5_hasRowsOnBothSides 114 = .ok (.goto 4, 3) := by decide +kernel
theorem dX5_hasRowsOnBothSides_117 : decode cX5_hasRowsOnBothSides 117 = .ok (.iconst 0, 1) := by decide +kernel
theorem dX5_hasRowsOnBothSides_118 : decode cX5_hasRowsOnBothSides 118 = .ok (.ireturn, 1) := by decide +kernel
theorem dX6_init_0 : decode cX6_init 0 = .ok (.aload_n 0, 1) := by decide +kernel
theorem dX6_init_1 : decode cX6_init 1 = .ok (.invokespecial 3, 3) := by decide +kernel
theorem dX6_init_4 : decode cX6_init 4 = .ok (.aload_n 0, 1) := by decide +kernel
theorem dX6_init_5 : decode cX6_init 5 = .ok (.new 9, 3) := by decide +kernel
theorem dX6_init_8 : decode cX6_init 8 = .ok (.dup, 1) := by decide +kernel
theorem dX6_init_9 : decode cX6_init 9 = .ok (.invokespecial 11, 3) := by decide +kernel
theorem dX6_init_12 : decode cX6_init 12 = .ok (.putfield 12, 3) := by decide +kernel
theorem dX6_init_15 : decode cX6_init 15 = .ok (.aload_n 0, 1) := by decide +kernel
theorem dX6_init_16 : decode cX6_init 16 = .ok (.new 18, 3) := by decide +kernel
theorem dX6_init_19 : decode cX6_init 19 = .ok (.dup, 1) := by decide +kernel
theorem dX6_init_20 : decode cX6_init 20 = .ok (.invokespecial 20, 3) := by decide +kernel
theorem dX6_init_23 : decode cX6_init 23 = .ok (.putfield 21, 3) := by decide +kernel
theorem dX6_init_26 : decode cX6_init 26 = .ok (.aload_n 0, 1) := by decide +kernel
theorem dX6_init_27 : decode cX6_init 27 = .ok (.new 25, 3) := by decide +kernel
theorem dX6_init_30 : decode cX6_init 30 = .ok (.dup, 1) := by decide +kernel
theorem dX6_init_31 : decode cX6_init 31 = .ok (.invokespecial 27, 3) := by decide +kernel
theorem dX6_init_34 : decode cX6_init 34 = .ok (.putfield 28, 3) := by decide +kernel
theorem dX6_init_37 : decode cX6_init 37 = .ok (.aload_n 0, 1) := by decide +kernel
theorem dX6_init_38 : decode cX6_init 38 = .ok (.new 32, 3) := by decide +kernel
theorem dX6_init_41 : decode cX6_init 41 = .ok (.dup, 1) := by decide +kernel
theorem dX6_init_42 : decode cX6_init 42 = .ok (.invokespecial 34, 3) := by decide +kernel
theorem dX6_init_45 : decode cX6_init 45 = .ok (.putfield 35, 3) := by decide +kernel
theorem dX6_init_48 : decode cX6_init 48 = .ok (.return_, 1) := by decide +kernel
theorem dX6_reset_0 : decode cX6_reset 0 = .ok (.aload_n 0, 1) := by decide +kernel
theorem dX6_reset_1 : decode cX6_reset 1 = .ok (.iload_n 1, 1) := by decide +kernel
theorem dX6_reset_2 : decode cX6_reset 2 = .ok (.putfield 39, 3) := by decide +kernel
theorem dX6_reset_5 : decode cX6_reset 5 = .ok (.aload_n 0, 1) := by decide +kernel
theorem dX6_reset_6 : decode cX6_reset 6 = .ok (.iconst 0, 1) := by decide +kernel
theorem dX6_reset_7 : decode cX6_reset 7 = .ok (.putfield 43, 3) := by decide +kernel
theorem dX6_reset_10 : decode cX6_reset 10 = .ok (.aload_n 0, 1) := by decide +kernel
theorem dX6_reset_11 : decode cX6_reset 11 = .ok (.iconst 0, 1) := by decide +kernel
theorem dX6_reset_12 : decode cX6_reset 12 = .ok (.putfield 46, 3) := by decide +kernel
theorem dX6_reset_15 : decode cX6_reset 15 = .ok (.aload_n 0, 1) := by decide +kernel
theorem dX6_reset_16 : decode cX6_reset 16 = .ok (.getfield 12, 3) := by decide +kernel
theorem dX6_reset_19 : decode cX6_reset 19 = .ok (.iconst 0, 1) := by decide +kernel
theorem dX6_reset_20 : decode cX6_reset 20 = .ok (.putfield 49, 3) := by decide +kernel
theorem dX6_reset_23 : decode cX6_reset 23 = .ok (.aload_n 0, 1) := by decide +kernel
theorem dX6_reset_24 : decode cX6_reset 24 = .ok (.getfield 21, 3) := by decide +kernel
theorem dX6_reset_27 : decode cX6_reset 27 = .ok (.invokevirtual 52, 3) := by decide +kernel
theorem dX6_reset_30 : decode cX6_reset 30 = .ok (.aload_n 0, 1) := by decide +kernel
theorem dX6_reset_31 : decode cX6_reset 31 = .ok (.getfield 28, 3) := by decide +kernel
theorem dX6_reset_34 : decode cX6_reset 34 = .ok (.iload_n 1, 1) := by decide +kernel
theorem dX6_reset_35 : decode cX6_reset 35 = .ok (.invokevirtual 55, 3) := by decide +kernel
theorem dX6_reset_38 : decode cX6_reset 38 = .ok (.aload_n 0, 1) := by decide +kernel
theorem dX6_reset_39 : decode cX6_reset 39 = .ok (.getfield 35, 3) := by decide +kernel
theorem dX6_reset_42 : decode cX6_reset 42 = .ok (.iconst 0, 1) := by decide +kernel
theorem dX6_reset_43 : decode cX6_reset 43 = .ok (.iconst 0, 1) := by decide +kernel
theorem dX6_reset_44 : decode cX6_reset 44 = .ok (.iconst 0, 1) := by decide +kernel
theorem dX6_reset_45 : decode cX6_reset 45 = .ok (.iconst 4, 1) := by decide +kernel
theorem dX6_reset_46 : decode cX6_reset 46 = .ok (.invokevirtual 58, 3) := by decide +kernel
theorem dX6_reset_49 : decode cX6_reset 49 = .ok (.return_, 1) := by decide +kernel
theorem dX6_copyFrom_0 : decode cX6_copyFrom 0 = .ok (.aload_n 0, 1) := by decide +kernel
theorem dX6_copyFrom_1 : decode cX6_copyFrom 1 = .ok (.aload_n 1, 1) := by decide +kernel
theorem dX6_copyFrom_2 : decode cX6_copyFrom 2 = .ok (.getfield 39, 3) := by decide +kernel
theorem dX6_copyFrom_5 : decode cX6_copyFrom 5 = .ok (.putfield 39, 3) := by decide +kernel
theorem dX6_copyFrom_8 : decode cX6_copyFrom 8 = .ok (.aload_n 0, 1) := by decide +kernel
theorem dX6_copyFrom_9 : decode cX6_copyFrom 9 = .ok (.aload_n 1, 1) := by decide +kernel
theorem dX6_copyFrom_10 : decode cX6_copyFrom 10 = .ok (.getfield 43, 3) := by decide +kernel
theorem dX6_copyFrom_13 : decode cX6_copyFrom 13 = .ok (.putfield 43, 3) := by decide +kernel
theorem dX6_copyFrom_16 : decode cX6_copyFrom 16 = .ok (.aload_n 0, 1) := by decide +kernel
theorem dX6_copyFrom_17 : decode cX6_copyFrom 17 = .ok (.aload_n 1, 1) := by decide +kernel
theorem dX6_copyFrom_18 : decode cX6_copyFrom 18 = .ok (.getfield 46, 3) := by decide +kernel
theorem dX6_copyFrom_21 : decode cX6_copyFrom 21 = .ok (.putfield 46, 3) := by decide +kernel
theorem dX6_copyFrom_24 : decode cX6_copyFrom 24 = .ok (.aload_n 0, 1) := by decide +kernel
theorem dX6_copyFrom_25 : decode cX6_copyFrom 25 = .ok (.getfield 12, 3) := by decide +kernel
theorem dX6_copyFrom_28 : decode cX6_copyFrom 28 = .ok (.aload_n 1, 1) := by decide +kernel
theorem dX6_copyFrom_29 : decode cX6_copyFrom 29 = .ok (.getfield 12, 3) := by decide +kernel
theorem dX6_copyFrom_32 : decode cX6_copyFrom 32 = .ok (.invokevirtual 62, 3) := by decide +kernel
theorem dX6_copyFrom_35 : decode cX6_copyFrom 35 = .ok (.aload_n 0, 1) := by decide +kernel
theorem dX6_copyFrom_36 : decode cX6_copyFrom 36 = .ok (.getfield 21, 3) := by decide +kernel
theorem dX6_copyFrom_39 : decode cX6_copyFrom 39 = .ok (.aload_n 1, 1) := by decide +kernel
theorem dX6_copyFrom_40 : decode cX6_copyFrom 40 = .ok (.getfield 21, 3) := by decide +kernel
theorem dX6_copyFrom_43 : decode cX6_copyFrom 43 = .ok (.invokevirtual 66, 3) := by decide +kernel
theorem dX6_copyFrom_46 : decode cX6_copyFrom 46 = .ok (.aload_n 0, 1) := by decide +kernel
theorem dX6_copyFrom_47 : decode cX6_copyFrom 47 = .ok (.getfield 28, 3) := by decide +kernel
theorem dX6_copyFrom_50 : decode cX6_copyFrom 50 = .ok (.aload_n 1, 1) := by decide +kernel
theorem dX6_copyFrom_51 : decode cX6_copyFrom 51 = .ok (.getfield 28, 3) := by decide +kernel
theorem dX6_copyFrom_54 : decode cX6_copyFrom 54 = .ok (.invokevirtual 69, 3) := by decide +kernel
theorem dX6_copyFrom_57 : decode cX6_copyFrom 57 = .ok (.aload_n 0, 1) := by decide +kernel
theorem dX6_copyFrom_58 : decode cX6_copyFrom 58 = .ok (.getfield 35, 3) := by decide +kernel
theorem dX6_copyFrom_61 : decode cX6_copyFrom 61 = .ok (.aload_n 1, 1) := by decide +kernel
theorem dX6_copyFrom_62 : decode cX6_copyFrom 62 = .ok (.getfield 35, 3) := by decide +kernel
theorem dX6_copyFrom_65 : decode cX6_copyFrom 65 = .ok (.invokevirtual 72, 3) := by decide +kernel
theorem dX6_copyFrom_68 : decode cX6_copyFrom 68 = .ok (.return_, 1) := by decide +kernel
theorem dX6_hasVariable_0 : decode cX6_hasVariable 0 = .ok (.iload_n 1, 1) := by decide +kernel
theorem dX6_hasVariable_1 : decode cX6_hasVariable 1 = .ok (.iconst 0, 1) := by decide +kernel
theorem dX6_hasVariable_2 : decode cX6_hasVariable 2 = .ok (.aload_n 0, 1) := by decide +kernel
theorem dX6_hasVariable_3 : decode cX6_hasVariable 3 = .ok (.getfield 39, 3) := by decide +kernel
theorem dX6_hasVariable_6 : decode cX6_hasVariable 6 = .ok (.iconst 1, 1) := by decide +kernel
theorem dX6_hasVariable_7 : decode cX6_hasVariable 7 = .ok (.isub, 1) := by decide +kernel
theorem dX6_hasVariable_8 : decode cX6_hasVariable 8 = .ok (.invokestatic 75, 3) := by decide +kernel
theorem dX6_hasVariable_11 : decode cX6_hasVariable 11 = .ok (.ireturn, 1) := by decide +kernel
theorem dX6_fit_0 : decode cX6_fit 0 = .ok (.iload_n 1, 1) := by decide +kernel
theorem dX6_fit_1 : decode cX6_fit 1 = .ok (.iload 4, 2) := by decide +kernel
theorem dX6_fit_3 : decode cX6_fit 3 = .ok (.iload 5, 2) := by decide +kernel
theorem dX6_fit_5 : decode cX6_fit 5 = .ok (.invokestatic 75, 3) := by decide +kernel
theorem dX6_fit_8 : decode cX6_fit 8 = .ok (.ifCond .eq 53, 3) := by decide +kernel
theorem dX6_fit_11 : decode cX6_fit 11 = .ok (.iload_n 2, 1) := by decide +kernel
theorem dX6_fit_12 : decode cX6_fit 12 = .ok (.iload 4, 2) := by decide +kernel
theorem dX6_fit_14 : decode cX6_fit 14 = .ok (.iload 5, 2) := by decide +kernel
theorem dX6_fit_16 : decode cX6_fit 16 = .ok (.invokestatic 75, 3) := by decide +kernel
theorem dX6_fit_19 : decode cX6_fit 19 = .ok (.ifCond .eq 42, 3) := by decide +kernel
theorem dX6_fit_22 : decode cX6_fit 22 = .ok (.iload_n 3, 1) := by decide +kernel
theorem dX6_fit_23 : decode cX6_fit 23 = .ok (.iload 4, 2) := by decide +kernel
theorem dX6_fit_25 : decode cX6_fit 25 = .ok (.iload 5, 2) := by decide +kernel
theorem dX6_fit_27 : decode cX6_fit 27 = .ok (.invokestatic 75, 3) := by decide +kernel
theorem dX6_fit_30 : decode cX6_fit 30 = .ok (.ifCond .eq 31, 3) := by decide +kernel
theorem dX6_fit_33 : decode cX6_fit 33 = .ok (.aload_n 0, 1) := by decide +kernel
theorem dX6_fit_34 : decode cX6_fit 34 = .ok (.getfield 39, 3) := by decide +kernel
theorem dX6_fit_37 : decode cX6_fit 37 = .ok (.iconst 1, 1) := by decide +kernel
theorem dX6_fit_38 : decode cX6_fit 38 = .ok (.if_icmp .gt 7, 3) := by decide +kernel
theorem dX6_fit_41 : decode cX6_fit 41 = .ok (.iload_n 2, 1) := by decide +kernel
theorem dX6_fit_42 : decode cX6_fit 42 = .ok (.ifCond .ne 19, 3) := by decide +kernel
theorem dX6_fit_45 : decode cX6_fit 45 = .ok (.aload_n 0, 1) := by decide +kernel
theorem dX6_fit_46 : decode cX6_fit 46 = .ok (.getfield 39, 3) := by decide +kernel
theorem dX6_fit_49 : decode cX6_fit 49 = .ok (.iconst 2, 1) := by decide +kernel
theorem dX6_fit_50 : decode cX6_fit 50 = .ok (.if_icmp .gt 7, 3) := by decide +kernel
theorem dX6_fit_53 : decode cX6_fit 53 = .ok (.iload_n 3, 1) := by decide +kernel
theorem dX6_fit_54 : decode cX6_fit 54 = .ok (.ifCond .ne 7, 3) := by decide +kernel
theorem dX6_fit_57 : decode cX6_fit 57 = .ok (.iconst 1, 1) := by decide +kernel
theorem dX6_fit_58 : decode cX6_fit 58 = .ok (.goto 4, 3) := by decide +kernel
theorem dX6_fit_61 : decode cX6_fit 61 = .ok (.iconst 0, 1) := by decide +kernel
theorem dX6_fit_62 : decode cX6_fit 62 = .ok (.ireturn, 1) := by decide +kernel
theorem dX6_placeIsAllowed_0 : decode cX6_placeIsAllowed 0 = .ok (.aload_n 0, 1) := by decide +kernel
theorem dX6_placeIsAllowed_1 : decode cX6_placeIsAllowed 1 = .ok (.getfield 21, 3) := by decide +kernel
theorem dX6_placeIsAllowed_4 : decode cX6_placeIsAllowed 4 = .ok (.aload_n 0, 1) := by decide +kernel
theorem dX6_placeIsAllowed_5 : decode cX6_placeIsAllowed 5 = .ok (.getfield 35, 3) := by decide +kernel
theorem dX6_placeIsAllowed_8 : decode cX6_placeIsAllowed 8 = .ok (.getfield 79, 3) := by decide +kernel
theorem dX6_placeIsAllowed_11 : decode cX6_placeIsAllowed 11 = .ok (.iconst 0, 1) := by decide +kernel
theorem dX6_placeIsAllowed_12 : decode cX6_placeIsAllowed 12 = .ok (.iaload, 1) := by decide +kernel
theorem dX6_placeIsAllowed_13 : decode cX6_placeIsAllowed 13 = .ok (.aload_n 0, 1) := by decide +kernel
theorem dX6_placeIsAllowed_14 : decode cX6_placeIsAllowed 14 = .ok (.getfield 35, 3) := by decide +kernel
theorem dX6_placeIsAllowed_17 : decode cX6_placeIsAllowed 17 = .ok (.getfield 79, 3) := by decide +kernel
theorem dX6_placeIsAllowed_20 : decode cX6_placeIsAllowed 20 = .ok (.iconst 1, 1) := by decide +kernel
theorem dX6_placeIsAllowed_21 : decode cX6_placeIsAllowed 21 = .ok (.iaload, 1) := by decide +kernel
theorem dX6_placeIsAllowed_22 : decode cX6_placeIsAllowed 22 = .ok (.aload_n 0, 1) := by decide +kernel
theorem dX6_placeIsAllowed_23 : decode cX6_placeIsAllowed 23 = .ok (.getfield 35, 3) := by decide +kernel
theorem dX6_placeIsAllowed_26 : decode cX6_placeIsAllowed 26 = .ok (.getfield 79, 3) := by decide +kernel
theorem dX6_placeIsAllowed_29 : decode cX6_placeIsAllowed 29 = .ok (.iconst 2, 1) := by decide +kernel
theorem dX6_placeIsAllowed_30 : decode cX6_placeIsAllowed 30 = .ok (.iaload, 1) := by decide +kernel
theorem dX6_placeIsAllowed_31 : decode cX6_placeIsAllowed 31 = .ok (.invokevirtual 83, 3) := by decide +kernel
theorem dX6_placeIsAllowed_34 : decode cX6_placeIsAllowed 34 = .ok (.ireturn, 1) := by decide +kernel
theorem dX6_canPoll_0 : decode cX6_canPoll 0 = .ok (.aload_n 0, 1) := by decide +kernel
theorem dX6_canPoll_1 : decode cX6_canPoll 1 = .ok (.invokevirtual 86, 3) := by decide +kernel
theorem dX6_canPoll_4 : decode cX6_canPoll 4 = .ok (.ifCond .eq 17, 3) := by decide +kernel
theorem dX6_canPoll_7 : decode cX6_canPoll 7 = .ok (.aload_n 0, 1) := by decide +kernel
theorem dX6_canPoll_8 : decode cX6_canPoll 8 = .ok (.getfield 28, 3) := by decide +kernel
theorem dX6_canPoll_11 : decode cX6_canPoll 11 = .ok (.getfield 90, 3) := by decide +kernel
theorem dX6_canPoll_14 : decode cX6_canPoll 14 = .ok (.ifCond .le 7, 3) := by decide +kernel
theorem dX6_canPoll_17 : decode cX6_canPoll 17 = .ok (.iconst 1, 1) := by decide +kernel
theorem dX6_canPoll_18 : decode cX6_canPoll 18 = .ok (.goto 4, 3) := by decide +kernel
theorem dX6_canPoll_21 : decode cX6_canPoll 21 = .ok (.iconst 0, 1) := by decide +kernel
theorem dX6_canPoll_22 : decode cX6_canPoll 22 = .ok (.ireturn, 1) := by decide +kernel
theorem dX6_valueHere_0 : decode cX6_valueHere 0 = .ok (.aload_n 0, 1) := by decide +kernel
theorem dX6_valueHere_1 : decode cX6_valueHere 1 = .ok (.getfield 12, 3) := by decide +kernel
theorem dX6_valueHere_4 : decode cX6_valueHere 4 = .ok (.aload_n 0, 1) := by decide +kernel
theorem dX6_valueHere_5 : decode cX6_valueHere 5 = .ok (.getfield 35, 3) := by decide +kernel
theorem dX6_valueHere_8 : decode cX6_valueHere 8 = .ok (.getfield 79, 3) := by decide +kernel
theorem dX6_valueHere_11 : decode cX6_valueHere 11 = .ok (.iconst 0, 1) := by decide +kernel
theorem dX6_valueHere_12 : decode cX6_valueHere 12 = .ok (.iaload, 1) := by decide +kernel
theorem dX6_valueHere_13 : decode cX6_valueHere 13 = .ok (.aload_n 0, 1) := by decide +kernel
theorem dX6_valueHere_14 : decode cX6_valueHere 14 = .ok (.getfield 35, 3) := by decide +kernel
theorem dX6_valueHere_17 : decode cX6_valueHere 17 = .ok (.getfield 79, 3) := by decide +kernel
theorem dX6_valueHere_20 : decode cX6_valueHere 20 = .ok (.iconst 1, 1) := by decide +kernel
theorem dX6_valueHere_21 : decode cX6_valueHere 21 = .ok (.iaload, 1) := by decide +kernel
theorem dX6_valueHere_22 : decode cX6_valueHere 22 = .ok (.aload_n 0, 1) := by decide +kernel
theorem dX6_valueHere_23 : decode cX6_valueHere 23 = .ok (.getfield 35, 3) := by decide +kernel
theorem dX6_valueHere_26 : decode cX6_valueHere 26 = .ok (.getfield 79, 3) := by decide +kernel
theorem dX6_valueHere_29 : decode cX6_valueHere 29 = .ok (.iconst 2, 1) := by decide +kernel
theorem dX6_valueHere_30 : decode cX6_valueHere 30 = .ok (.iaload, 1) := by decide +kernel
theorem dX6_valueHere_31 : decode cX6_valueHere 31 = .ok (.iconst 4, 1) := by decide +kernel
theorem dX6_valueHere_32 : decode cX6_valueHere 32 = .ok (.invokevirtual 91, 3) := by decide +kernel
theorem dX6_valueHere_35 : decode cX6_valueHere 35 = .ok (.lreturn, 1) := by decide +kernel
theorem dX6_trialNumber_0 : decode cX6_trialNumber 0 = .ok (.aload_n 0, 1) := by decide +kernel
theorem dX6_trialNumber_1 : decode cX6_trialNumber 1 = .ok (.getfield 35, 3) := by decide +kernel
theorem dX6_trialNumber_4 : decode cX6_trialNumber 4 = .ok (.getfield 79, 3) := by decide +kernel
theorem dX6_trialNumber_7 : decode cX6_trialNumber 7 = .ok (.iload_n 2, 1) := by decide +kernel
theorem dX6_trialNumber_8 : decode cX6_trialNumber 8 = .ok (.iaload, 1) := by decide +kernel
theorem dX6_trialNumber_9 : decode cX6_trialNumber 9 = .ok (.iload_n 3, 1) := by decide +kernel
theorem dX6_trialNumber_10 : decode cX6_trialNumber 10 = .ok (.aload_n 0, 1) := by decide +kernel
theorem dX6_trialNumber_11 : decode cX6_trialNumber 11 = .ok (.getfield 28, 3) := by decide +kernel
theorem dX6_trialNumber_14 : decode cX6_trialNumber 14 = .ok (.getfield 95, 3) := by decide +kernel
theorem dX6_trialNumber_17 : decode cX6_trialNumber 17 = .ok (.iconst 3, 1) := by decide +kernel
theorem dX6_trialNumber_18 : decode cX6_trialNumber 18 = .ok (.iload_n 1, 1) := by decide +kernel
theorem dX6_trialNumber_19 : decode cX6_trialNumber 19 = .ok (.imul, 1) := by decide +kernel
theorem dX6_trialNumber_20 : decode cX6_trialNumber 20 = .ok (.iload_n 2, 1) := by decide +kernel
theorem dX6_trialNumber_21 : decode cX6_trialNumber 21 = .ok (.iadd, 1) := by decide +kernel
theorem dX6_trialNumber_22 : decode cX6_trialNumber 22 = .ok (.iaload, 1) := by decide +kernel
theorem dX6_trialNumber_23 : decode cX6_trialNumber 23 = .ok (.imul, 1) := by decide +kernel
theorem dX6_trialNumber_24 : decode cX6_trialNumber 24 = .ok (.iadd, 1) := by decide +kernel
theorem dX6_trialNumber_25 : decode cX6_trialNumber 25 = .ok (.ireturn, 1) := by decide +kernel
theorem dX6_rankOf_0 : decode cX6_rankOf 0 = .ok (.aload_n 0, 1) := by decide +kernel
theorem dX6_rankOf_1 : decode cX6_rankOf 1 = .ok (.getfield 43, 3) := by decide +kernel
theorem dX6_rankOf_4 : decode cX6_rankOf 4 = .ok (.lookupswitch 58 #[(1, 28), (2, 45)], 28) := by decide +kernel
theorem dX6_rankOf_32 : decode cX6_rankOf 32 = .ok (.iload_n 1, 1) := by decide +kernel
theorem dX6_rankOf_33 : decode cX6_rankOf 33 = .ok (.aload_n 0, 1) := by decide +kernel
theorem dX6_rankOf_34 : decode cX6_rankOf 34 = .ok (.getfield 35, 3) := by decide +kernel
theorem dX6_rankOf_37 : decode cX6_rankOf 37 = .ok (.getfield 98, 3) := by decide +kernel
theorem dX6_rankOf_40 : decode cX6_rankOf 40 = .ok (.if_icmp .ne 7, 3) := by decide +kernel
theorem dX6_rankOf_43 : decode cX6_rankOf 43 = .ok (.lconst 0, 1) := by decide +kernel
theorem dX6_rankOf_44 : decode cX6_rankOf 44 = .ok (.goto 4, 3) := by decide +kernel
theorem dX6_rankOf_47 : decode cX6_rankOf 47 = .ok (.lconst 1, 1) := by decide +kernel
theorem dX6_rankOf_48 : decode cX6_rankOf 48 = .ok (.lreturn, 1) := by decide +kernel
theorem dX6_rankOf_49 : decode cX6_rankOf 49 = .ok (.aload_n 0, 1) := by decide +kernel
theorem dX6_rankOf_50 : decode cX6_rankOf 50 = .ok (.getfield 12, 3) := by decide +kernel
theorem dX6_rankOf_53 : decode cX6_rankOf 53 = .ok (.iload_n 2, 1) := by decide +kernel
theorem dX6_rankOf_54 : decode cX6_rankOf 54 = .ok (.iload_n 3, 1) := by decide +kernel
theorem dX6_rankOf_55 : decode cX6_rankOf 55 = .ok (.iload 4, 2) := by decide +kernel
theorem dX6_rankOf_57 : decode cX6_rankOf 57 = .ok (.iconst 2, 1) := by decide +kernel
theorem dX6_rankOf_58 : decode cX6_rankOf 58 = .ok (.invokevirtual 91, 3) := by decide +kernel
theorem dX6_rankOf_61 : decode cX6_rankOf 61 = .ok (.lreturn, 1) := by decide +kernel
theorem dX6_rankOf_62 : decode cX6_rankOf 62 = .ok (.lconst 0, 1) := by decide +kernel
theorem dX6_rankOf_63 : decode cX6_rankOf 63 = .ok (.lreturn, 1) := by decide +kernel
theorem dX6_pollOnce_0 : decode cX6_pollOnce 0 = .ok (.aload_n 1, 1) := by decide +kernel
theorem dX6_pollOnce_1 : decode cX6_pollOnce 1 = .ok (.aload_n 0, 1) := by decide +kernel
theorem dX6_pollOnce_2 : decode cX6_pollOnce 2 = .ok (.aload_n 0, 1) := by decide +kernel
theorem dX6_pollOnce_3 : decode cX6_pollOnce 3 = .ok (.getfield 35, 3) := by decide +kernel
theorem dX6_pollOnce_6 : decode cX6_pollOnce 6 = .ok (.getfield 101, 3) := by decide +kernel
theorem dX6_pollOnce_9 : decode cX6_pollOnce 9 = .ok (.invokevirtual 104, 3) := by decide +kernel
theorem dX6_pollOnce_12 : decode cX6_pollOnce 12 = .ok (.aload_n 1, 1) := by decide +kernel
theorem dX6_pollOnce_13 : decode cX6_pollOnce 13 = .ok (.aload_n 0, 1) := by decide +kernel
theorem dX6_pollOnce_14 : decode cX6_pollOnce 14 = .ok (.getfield 46, 3) := by decide +kernel
theorem dX6_pollOnce_17 : decode cX6_pollOnce 17 = .ok (.invokevirtual 110, 3) := by decide +kernel
theorem dX6_pollOnce_20 : decode cX6_pollOnce 20 = .ok (.istore_n 2, 1) := by decide +kernel
theorem dX6_pollOnce_21 : decode cX6_pollOnce 21 = .ok (.aload_n 0, 1) := by decide +kernel
theorem dX6_pollOnce_22 : decode cX6_pollOnce 22 = .ok (.getfield 35, 3) := by decide +kernel
theorem dX6_pollOnce_25 : decode cX6_pollOnce 25 = .ok (.dup, 1) := by decide +kernel
theorem dX6_pollOnce_26 : decode cX6_pollOnce 26 = .ok (.getfield 114, 3) := by decide +kernel
theorem dX6_pollOnce_29 : decode cX6_pollOnce 29 = .ok (.iconst 1, 1) := by decide +kernel
theorem dX6_pollOnce_30 : decode cX6_pollOnce 30 = .ok (.iadd, 1) := by decide +kernel
theorem dX6_pollOnce_31 : decode cX6_pollOnce 31 = .ok (.putfield 114, 3) := by decide +kernel
theorem dX6_pollOnce_34 : decode cX6_pollOnce 34 = .ok (.aload_n 0, 1) := by decide +kernel
theorem dX6_pollOnce_35 : decode cX6_pollOnce 35 = .ok (.getfield 35, 3) := by decide +kernel
theorem dX6_pollOnce_38 : decode cX6_pollOnce 38 = .ok (.dup, 1) := by decide +kernel
theorem dX6_pollOnce_39 : decode cX6_pollOnce 39 = .ok (.getfield 117, 3) := by decide +kernel
theorem dX6_pollOnce_42 : decode cX6_pollOnce 42 = .ok (.aload_n 1, 1) := by decide +kernel
theorem dX6_pollOnce_43 : decode cX6_pollOnce 43 = .ok (.getfield 120, 3) := by decide +kernel
theorem dX6_pollOnce_46 : decode cX6_pollOnce 46 = .ok (.iadd, 1) := by decide +kernel
theorem dX6_pollOnce_47 : decode cX6_pollOnce 47 = .ok (.putfield 117, 3) := by decide +kernel
theorem dX6_pollOnce_50 : decode cX6_pollOnce 50 = .ok (.iload_n 2, 1) := by decide +kernel
theorem dX6_pollOnce_51 : decode cX6_pollOnce 51 = .ok (.iconst (-1), 1) := by decide +kernel
theorem dX6_pollOnce_52 : decode cX6_pollOnce 52 = .ok (.if_icmp .ne 12, 3) := by decide +kernel
theorem dX6_pollOnce_55 : decode cX6_pollOnce 55 = .ok (.aload_n 0, 1) := by decide +kernel
theorem dX6_pollOnce_56 : decode cX6_pollOnce 56 = .ok (.getfield 35, 3) := by decide +kernel
theorem dX6_pollOnce_59 : decode cX6_pollOnce 59 = .ok (.invokevirtual 121, 3) := by decide +kernel
theorem dX6_pollOnce_62 : decode cX6_pollOnce 62 = .ok (.iconst (-1), 1) := by decide +kernel
theorem dX6_pollOnce_63 : decode cX6_pollOnce 63 = .ok (.ireturn, 1) := by decide +kernel
theorem dX6_pollOnce_64 : decode cX6_pollOnce 64 = .ok (.aload_n 0, 1) := by decide +kernel
theorem dX6_pollOnce_65 : decode cX6_pollOnce 65 = .ok (.getfield 35, 3) := by decide +kernel
theorem dX6_pollOnce_68 : decode cX6_pollOnce 68 = .ok (.getfield 101, 3) := by decide +kernel
theorem dX6_pollOnce_71 : decode cX6_pollOnce 71 = .ok (.istore_n 3, 1) := by decide +kernel
theorem dX6_pollOnce_72 : decode cX6_pollOnce 72 = .ok (.aload_n 0, 1) := by decide +kernel
theorem dX6_pollOnce_73 : decode cX6_pollOnce 73 = .ok (.getfield 28, 3) := by decide +kernel
theorem dX6_pollOnce_76 : decode cX6_pollOnce 76 = .ok (.getfield 124, 3) := by decide +kernel
theorem dX6_pollOnce_79 : decode cX6_pollOnce 79 = .ok (.iload_n 2, 1) := by decide +kernel
theorem dX6_pollOnce_80 : decode cX6_pollOnce 80 = .ok (.dup2, 1) := by decide +kernel
theorem dX6_pollOnce_81 : decode cX6_pollOnce 81 = .ok (.iaload, 1) := by decide +kernel
theorem dX6_pollOnce_82 : decode cX6_pollOnce 82 = .ok (.iconst 1, 1) := by decide +kernel
theorem dX6_pollOnce_83 : decode cX6_pollOnce 83 = .ok (.iadd, 1) := by decide +kernel
theorem dX6_pollOnce_84 : decode cX6_pollOnce 84 = .ok (.iastore, 1) := by decide +kernel
theorem dX6_pollOnce_85 : decode cX6_pollOnce 85 = .ok (.aload_n 0, 1) := by decide +kernel
theorem dX6_pollOnce_86 : decode cX6_pollOnce 86 = .ok (.getfield 35, 3) := by decide +kernel
theorem dX6_pollOnce_89 : decode cX6_pollOnce 89 = .ok (.iload_n 2, 1) := by decide +kernel
theorem dX6_pollOnce_90 : decode cX6_pollOnce 90 = .ok (.aload_n 0, 1) := by decide +kernel
theorem dX6_pollOnce_91 : decode cX6_pollOnce 91 = .ok (.iload_n 2, 1) := by decide +kernel
theorem dX6_pollOnce_92 : decode cX6_pollOnce 92 = .ok (.iconst 0, 1) := by decide +kernel
theorem dX6_pollOnce_93 : decode cX6_pollOnce 93 = .ok (.iload_n 3, 1) := by decide +kernel
theorem dX6_pollOnce_94 : decode cX6_pollOnce 94 = .ok (.invokevirtual 127, 3) := by decide +kernel
theorem dX6_pollOnce_97 : decode cX6_pollOnce 97 = .ok (.aload_n 0, 1) := by decide +kernel
theorem dX6_pollOnce_98 : decode cX6_pollOnce 98 = .ok (.iload_n 2, 1) := by decide +kernel
theorem dX6_pollOnce_99 : decode cX6_pollOnce 99 = .ok (.iconst 1, 1) := by decide +kernel
theorem dX6_pollOnce_100 : decode cX6_pollOnce 100 = .ok (.iload_n 3, 1) := by decide +kernel
theorem dX6_pollOnce_101 : decode cX6_pollOnce 101 = .ok (.invokevirtual 127, 3) := by decide +kernel
theorem dX6_pollOnce_104 : decode cX6_pollOnce 104 = .ok (.aload_n 0, 1) := by decide +kernel
theorem dX6_pollOnce_105 : decode cX6_pollOnce 105 = .ok (.iload_n 2, 1) := by decide +kernel
theorem dX6_pollOnce_106 : decode cX6_pollOnce 106 = .ok (.iconst 2, 1) := by decide +kernel
theorem dX6_pollOnce_107 : decode cX6_pollOnce 107 = .ok (.iload_n 3, 1) := by decide +kernel
theorem dX6_pollOnce_108 : decode cX6_pollOnce 108 = .ok (.invokevirtual 127, 3) := by decide +kernel
theorem dX6_pollOnce_111 : decode cX6_pollOnce 111 = .ok (.invokevirtual 131, 3) := by decide +kernel
theorem dX6_pollOnce_114 : decode cX6_pollOnce 114 = .ok (.iload_n 2, 1) := by decide +kernel
theorem dX6_pollOnce_115 : decode cX6_pollOnce 115 = .ok (.ireturn, 1) := by decide +kernel
theorem dX7_init_0 : decode cX7_init 0 = .ok (.aload_n 0, 1) := by decide +kernel
theorem dX7_init_1 : decode cX7_init 1 = .ok (.invokespecial 3, 3) := by decide +kernel
theorem dX7_init_4 : decode cX7_init 4 = .ok (.aload_n 0, 1) := by decide +kernel
theorem dX7_init_5 : decode cX7_init 5 = .ok (.bipush 10, 2) := by decide +kernel
theorem dX7_init_7 : decode cX7_init 7 = .ok (.newarray .int, 2) := by decide +kernel
theorem dX7_init_9 : decode cX7_init 9 = .ok (.putfield 9, 3) := by decide +kernel
theorem dX7_init_12 : decode cX7_init 12 = .ok (.aload_n 0, 1) := by decide +kernel
theorem dX7_init_13 : decode cX7_init 13 = .ok (.bipush 30, 2) := by decide +kernel
theorem dX7_init_15 : decode cX7_init 15 = .ok (.newarray .int, 2) := by decide +kernel
theorem dX7_init_17 : decode cX7_init 17 = .ok (.putfield 15, 3) := by decide +kernel
theorem dX7_init_20 : decode cX7_init 20 = .ok (.return_, 1) := by decide +kernel
theorem dX7_copyFrom_0 : decode cX7_copyFrom 0 = .ok (.aload_n 0, 1) := by decide +kernel
theorem dX7_copyFrom_1 : decode cX7_copyFrom 1 = .ok (.aload_n 1, 1) := by decide +kernel
theorem dX7_copyFrom_2 : decode cX7_copyFrom 2 = .ok (.getfield 18, 3) := by decide +kernel
theorem dX7_copyFrom_5 : decode cX7_copyFrom 5 = .ok (.putfield 18, 3) := by decide +kernel
theorem dX7_copyFrom_8 : decode cX7_copyFrom 8 = .ok (.aload_n 1, 1) := by decide +kernel
theorem dX7_copyFrom_9 : decode cX7_copyFrom 9 = .ok (.getfield 9, 3) := by decide +kernel
theorem dX7_copyFrom_12 : decode cX7_copyFrom 12 = .ok (.iconst 0, 1) := by decide +kernel
theorem dX7_copyFrom_13 : decode cX7_copyFrom 13 = .ok (.aload_n 0, 1) := by decide +kernel
theorem dX7_copyFrom_14 : decode cX7_copyFrom 14 = .ok (.getfield 9, 3) := by decide +kernel
theorem dX7_copyFrom_17 : decode cX7_copyFrom 17 = .ok (.iconst 0, 1) := by decide +kernel
theorem dX7_copyFrom_18 : decode cX7_copyFrom 18 = .ok (.bipush 10, 2) := by decide +kernel
theorem dX7_copyFrom_20 : decode cX7_copyFrom 20 = .ok (.invokestatic 22, 3) := by decide +kernel
theorem dX7_copyFrom_23 : decode cX7_copyFrom 23 = .ok (.aload_n 1, 1) := by decide +kernel
theorem dX7_copyFrom_24 : decode cX7_copyFrom 24 = .ok (.getfield 15, 3) := by decide +kernel
theorem dX7_copyFrom_27 : decode cX7_copyFrom 27 = .ok (.iconst 0, 1) := by decide +kernel
theorem dX7_copyFrom_28 : decode cX7_copyFrom 28 = .ok (.aload_n 0, 1) := by decide +kernel
theorem dX7_copyFrom_29 : decode cX7_copyFrom 29 = .ok (.getfield 15, 3) := by decide +kernel
theorem dX7_copyFrom_32 : decode cX7_copyFrom 32 = .ok (.iconst 0, 1) := by decide +kernel
theorem dX7_copyFrom_33 : decode cX7_copyFrom 33 = .ok (.bipush 30, 2) := by decide +kernel
theorem dX7_copyFrom_35 : decode cX7_copyFrom 35 = .ok (.invokestatic 22, 3) := by decide +kernel
theorem dX7_copyFrom_38 : decode cX7_copyFrom 38 = .ok (.return_, 1) := by decide +kernel
theorem dX7_add_0 : decode cX7_add 0 = .ok (.aload_n 0, 1) := by decide +kernel
theorem dX7_add_1 : decode cX7_add 1 = .ok (.getfield 18, 3) := by decide +kernel
theorem dX7_add_4 : decode cX7_add 4 = .ok (.bipush 10, 2) := by decide +kernel
theorem dX7_add_6 : decode cX7_add 6 = .ok (.if_icmp .lt 4, 3) := by decide +kernel
theorem dX7_add_9 : decode cX7_add 9 = .ok (.return_, 1) := by decide +kernel
theorem dX7_add_10 : decode cX7_add 10 = .ok (.aload_n 0, 1) := by decide +kernel
theorem dX7_add_11 : decode cX7_add 11 = .ok (.getfield 9, 3) := by decide +kernel
theorem dX7_add_14 : decode cX7_add 14 = .ok (.aload_n 0, 1) := by decide +kernel
theorem dX7_add_15 : decode cX7_add 15 = .ok (.getfield 18, 3) := by decide +kernel
theorem dX7_add_18 : decode cX7_add 18 = .ok (.iload_n 1, 1) := by decide +kernel
theorem dX7_add_19 : decode cX7_add 19 = .ok (.iastore, 1) := by decide +kernel
theorem dX7_add_20 : decode cX7_add 20 = .ok (.aload_n 0, 1) := by decide +kernel
theorem dX7_add_21 : decode cX7_add 21 = .ok (.getfield 15, 3) := by decide +kernel
theorem dX7_add_24 : decode cX7_add 24 = .ok (.iconst 3, 1) := by decide +kernel
theorem dX7_add_25 : decode cX7_add 25 = .ok (.aload_n 0, 1) := by decide +kernel
theorem dX7_add_26 : decode cX7_add 26 = .ok (.getfield 18, 3) := by decide +kernel
theorem dX7_add_29 : decode cX7_add 29 = .ok (.imul, 1) := by decide +kernel
theorem dX7_add_30 : decode cX7_add 30 = .ok (.iload_n 2, 1) := by decide +kernel
theorem dX7_add_31 : decode cX7_add 31 = .ok (.iastore, 1) := by decide +kernel
theorem dX7_add_32 : decode cX7_add 32 = .ok (.aload_n 0, 1) := by decide +kernel
theorem dX7_add_33 : decode cX7_add 33 = .ok (.getfield 15, 3) := by decide +kernel
theorem dX7_add_36 : decode cX7_add 36 = .ok (.iconst 3, 1) := by decide +kernel
theorem dX7_add_37 : decode cX7_add 37 = .ok (.aload_n 0, 1) := by decide +kernel
theorem dX7_add_38 : decode cX7_add 38 = .ok (.getfield 18, 3) := by decide +kernel
theorem dX7_add_41 : decode cX7_add 41 = .ok (.imul, 1) := by decide +kernel
theorem dX7_add_42 : decode cX7_add 42 = .ok (.iconst 1, 1) := by decide +kernel
theorem dX7_add_43 : decode cX7_add 43 = .ok (.iadd, 1) := by decide +kernel
theorem dX7_add_44 : decode cX7_add 44 = .ok (.iload_n 3, 1) := by decide +kernel
theorem dX7_add_45 : decode cX7_add 45 = .ok (.iastore, 1) := by decide +kernel
theorem dX7_add_46 : decode cX7_add 46 = .ok (.aload_n 0, 1) := by decide +kernel
theorem dX7_add_47 : decode cX7_add 47 = .ok (.getfield 15, 3) := by decide +kernel
theorem dX7_add_50 : decode cX7_add 50 = .ok (.iconst 3, 1) := by decide +kernel
theorem dX7_add_51 : decode cX7_add 51 = .ok (.aload_n 0, 1) := by decide +kernel
theorem dX7_add_52 : decode cX7_add 52 = .ok (.getfield 18, 3) := by decide +kernel
theorem dX7_add_55 : decode cX7_add 55 = .ok (.imul, 1) := by decide +kernel
theorem dX7_add_56 : decode cX7_add 56 = .ok (.iconst 2, 1) := by decide +kernel
theorem dX7_add_57 : decode cX7_add 57 = .ok (.iadd, 1) := by decide +kernel
theorem dX7_add_58 : decode cX7_add 58 = .ok (.iload 4, 2) := by decide +kernel
theorem dX7_add_60 : decode cX7_add 60 = .ok (.iastore, 1) := by decide +kernel
theorem dX7_add_61 : decode cX7_add 61 = .ok (.aload_n 0, 1) := by decide +kernel
theorem dX7_add_62 : decode cX7_add 62 = .ok (.dup, 1) := by decide +kernel
theorem dX7_add_63 : decode cX7_add 63 = .ok (.getfield 18, 3) := by decide +kernel
theorem dX7_add_66 : decode cX7_add 66 = .ok (.iconst 1, 1) := by decide +kernel
theorem dX7_add_67 : decode cX7_add 67 = .ok (.iadd, 1) := by decide +kernel
theorem dX7_add_68 : decode cX7_add 68 = .ok (.putfield 18, 3) := by decide +kernel
theorem dX7_add_71 : decode cX7_add 71 = .ok (.return_, 1) := by decide +kernel
theorem dX7_remove_0 : decode cX7_remove 0 = .ok (.iload_n 1, 1) := by decide +kernel
theorem dX7_remove_1 : decode cX7_remove 1 = .ok (.ifCond .lt 11, 3) := by decide +kernel
theorem dX7_remove_4 : decode cX7_remove 4 = .ok (.iload_n 1, 1) := by decide +kernel
theorem dX7_remove_5 : decode cX7_remove 5 = .ok (.aload_n 0, 1) := by decide +kernel
theorem dX7_remove_6 : decode cX7_remove 6 = .ok (.getfield 18, 3) := by decide +kernel
theorem dX7_remove_9 : decode cX7_remove 9 = .ok (.if_icmp .lt 4, 3) := by decide +kernel
theorem dX7_remove_12 : decode cX7_remove 12 = .ok (.return_, 1) := by decide +kernel
theorem dX7_remove_13 : decode cX7_remove 13 = .ok (.aload_n 0, 1) := by decide +kernel
theorem dX7_remove_14 : decode cX7_remove 14 = .ok (.getfield 9, 3) := by decide +kernel
theorem dX7_remove_17 : decode cX7_remove 17 = .ok (.iconst 1, 1) := by decide +kernel
theorem dX7_remove_18 : decode cX7_remove 18 = .ok (.iload_n 1, 1) := by decide +kernel
theorem dX7_remove_19 : decode cX7_remove 19 = .ok (.aload_n 0, 1) := by decide +kernel
theorem dX7_remove_20 : decode cX7_remove 20 = .ok (.getfield 18, 3) := by decide +kernel
theorem dX7_remove_23 : decode cX7_remove 23 = .ok (.invokestatic 28, 3) := by decide +kernel
theorem dX7_remove_26 : decode cX7_remove 26 = .ok (.aload_n 0, 1) := by decide +kernel
theorem dX7_remove_27 : decode cX7_remove 27 = .ok (.getfield 15, 3) := by decide +kernel
theorem dX7_remove_30 : decode cX7_remove 30 = .ok (.iconst 3, 1) := by decide +kernel
theorem dX7_remove_31 : decode cX7_remove 31 = .ok (.iload_n 1, 1) := by decide +kernel
theorem dX7_remove_32 : decode cX7_remove 32 = .ok (.aload_n 0, 1) := by decide +kernel
theorem dX7_remove_33 : decode cX7_remove 33 = .ok (.getfield 18, 3) := by decide +kernel
theorem dX7_remove_36 : decode cX7_remove 36 = .ok (.invokestatic 28, 3) := by decide +kernel
theorem dX7_remove_39 : decode cX7_remove 39 = .ok (.aload_n 0, 1) := by decide +kernel
theorem dX7_remove_40 : decode cX7_remove 40 = .ok (.dup, 1) := by decide +kernel
theorem dX7_remove_41 : decode cX7_remove 41 = .ok (.getfield 18, 3) := by decide +kernel
theorem dX7_remove_44 : decode cX7_remove 44 = .ok (.iconst 1, 1) := by decide +kernel
theorem dX7_remove_45 : decode cX7_remove 45 = .ok (.isub, 1) := by decide +kernel
theorem dX7_remove_46 : decode cX7_remove 46 = .ok (.putfield 18, 3) := by decide +kernel
theorem dX7_remove_49 : decode cX7_remove 49 = .ok (.return_, 1) := by decide +kernel
theorem dX7_sumAt_0 : decode cX7_sumAt 0 = .ok (.lconst 0, 1) := by decide +kernel
theorem dX7_sumAt_1 : decode cX7_sumAt 1 = .ok (.lstore 5, 2) := by decide +kernel
theorem dX7_sumAt_3 : decode cX7_sumAt 3 = .ok (.iconst 0, 1) := by decide +kernel
theorem dX7_sumAt_4 : decode cX7_sumAt 4 = .ok (.istore 7, 2) := by decide +kernel
theorem dX7_sumAt_6 : decode cX7_sumAt 6 = .ok (.iload 7, 2) := by decide +kernel
theorem dX7_sumAt_8 : decode cX7_sumAt 8 = .ok (.aload_n 0, 1) := by decide +kernel
theorem dX7_sumAt_9 : decode cX7_sumAt 9 = .ok (.getfield 18, 3) := by decide +kernel
theorem dX7_sumAt_12 : decode cX7_sumAt 12 = .ok (.if_icmp .ge 104, 3) := by decide +kernel
theorem dX7_sumAt_15 : decode cX7_sumAt 15 = .ok (.iconst 3, 1) := by decide +kernel
theorem dX7_sumAt_16 : decode cX7_sumAt 16 = .ok (.iload 7, 2) := by decide +kernel
theorem dX7_sumAt_18 : decode cX7_sumAt 18 = .ok (.imul, 1) := by decide +kernel
theorem dX7_sumAt_19 : decode cX7_sumAt 19 = .ok (.istore 8, 2) := by decide +kernel
theorem dX7_sumAt_21 : decode cX7_sumAt 21 = .ok (.aload_n 0, 1) := by decide +kernel
theorem dX7_sumAt_22 : decode cX7_sumAt 22 = .ok (.getfield 15, 3) := by decide +kernel
theorem dX7_sumAt_25 : decode cX7_sumAt 25 = .ok (.iload 8, 2) := by decide +kernel
theorem dX7_sumAt_27 : decode cX7_sumAt 27 = .ok (.iaload, 1) := by decide +kernel
theorem dX7_sumAt_28 : decode cX7_sumAt 28 = .ok (.aload_n 0, 1) := by decide +kernel
theorem dX7_sumAt_29 : decode cX7_sumAt 29 = .ok (.getfield 15, 3) := by decide +kernel
theorem dX7_sumAt_32 : decode cX7_sumAt 32 = .ok (.iload 8, 2) := by decide +kernel
theorem dX7_sumAt_34 : decode cX7_sumAt 34 = .ok (.iconst 1, 1) := by decide +kernel
theorem dX7_sumAt_35 : decode cX7_sumAt 35 = .ok (.iadd, 1) := by decide +kernel
theorem dX7_sumAt_36 : decode cX7_sumAt 36 = .ok (.iaload, 1) := by decide +kernel
theorem dX7_sumAt_37 : decode cX7_sumAt 37 = .ok (.iadd, 1) := by decide +kernel
theorem dX7_sumAt_38 : decode cX7_sumAt 38 = .ok (.aload_n 0, 1) := by decide +kernel
theorem dX7_sumAt_39 : decode cX7_sumAt 39 = .ok (.getfield 15, 3) := by decide +kernel
theorem dX7_sumAt_42 : decode cX7_sumAt 42 = .ok (.iload 8, 2) := by decide +kernel
theorem dX7_sumAt_44 : decode cX7_sumAt 44 = .ok (.iconst 2, 1) := by decide +kernel
theorem dX7_sumAt_45 : decode cX7_sumAt 45 = .ok (.iadd, 1) := by decide +kernel
theorem dX7_sumAt_46 : decode cX7_sumAt 46 = .ok (.iaload, 1) := by decide +kernel
theorem dX7_sumAt_47 : decode cX7_sumAt 47 = .ok (.iadd, 1) := by decide +kernel
theorem dX7_sumAt_48 : decode cX7_sumAt 48 = .ok (.istore 9, 2) := by decide +kernel
theorem dX7_sumAt_50 : decode cX7_sumAt 50 = .ok (.iload 9, 2) := by decide +kernel
theorem dX7_sumAt_52 : decode cX7_sumAt 52 = .ok (.iload 4, 2) := by decide +kernel
theorem dX7_sumAt_54 : decode cX7_sumAt 54 = .ok (.if_icmp .gt 56, 3) := by decide +kernel
theorem dX7_sumAt_57 : decode cX7_sumAt 57 = .ok (.lload 5, 2) := by decide +kernel
theorem dX7_sumAt_59 : decode cX7_sumAt 59 = .ok (.aload_n 0, 1) := by decide +kernel
theorem dX7_sumAt_60 : decode cX7_sumAt 60 = .ok (.getfield 9, 3) := by decide +kernel
theorem dX7_sumAt_63 : decode cX7_sumAt 63 = .ok (.iload 7, 2) := by decide +kernel
theorem dX7_sumAt_65 : decode cX7_sumAt 65 = .ok (.iaload, 1) := by decide +kernel
theorem dX7_sumAt_66 : decode cX7_sumAt 66 = .ok (.i2l, 1) := by decide +kernel
theorem dX7_sumAt_67 : decode cX7_sumAt 67 = .ok (.iload_n 1, 1) := by decide +kernel
theorem dX7_sumAt_68 : decode cX7_sumAt 68 = .ok (.aload_n 0, 1) := by decide +kernel
theorem dX7_sumAt_69 : decode cX7_sumAt 69 = .ok (.getfield 15, 3) := by decide +kernel
theorem dX7_sumAt_72 : decode cX7_sumAt 72 = .ok (.iload 8, 2) := by decide +kernel
theorem dX7_sumAt_74 : decode cX7_sumAt 74 = .ok (.iaload, 1) := by decide +kernel
theorem dX7_sumAt_75 : decode cX7_sumAt 75 = .ok (.invokestatic 32, 3) := by decide +kernel
theorem dX7_sumAt_78 : decode cX7_sumAt 78 = .ok (.lmul, 1) := by decide +kernel
theorem dX7_sumAt_79 : decode cX7_sumAt 79 = .ok (.iload_n 2, 1) := by decide +kernel
theorem dX7_sumAt_80 : decode cX7_sumAt 80 = .ok (.aload_n 0, 1) := by decide +kernel
theorem dX7_sumAt_81 : decode cX7_sumAt 81 = .ok (.getfield 15, 3) := by decide +kernel
theorem dX7_sumAt_84 : decode cX7_sumAt 84 = .ok (.iload 8, 2) := by decide +kernel
theorem dX7_sumAt_86 : decode cX7_sumAt 86 = .ok (.iconst 1, 1) := by decide +kernel
theorem dX7_sumAt_87 : decode cX7_sumAt 87 = .ok (.iadd, 1) := by decide +kernel
theorem dX7_sumAt_88 : decode cX7_sumAt 88 = .ok (.iaload, 1) := by decide +kernel
theorem dX7_sumAt_89 : decode cX7_sumAt 89 = .ok (.invokestatic 32, 3) := by decide +kernel
theorem dX7_sumAt_92 : decode cX7_sumAt 92 = .ok (.lmul, 1) := by decide +kernel
theorem dX7_sumAt_93 : decode cX7_sumAt 93 = .ok (.iload_n 3, 1) := by decide +kernel
theorem dX7_sumAt_94 : decode cX7_sumAt 94 = .ok (.aload_n 0, 1) := by decide +kernel
theorem dX7_sumAt_95 : decode cX7_sumAt 95 = .ok (.getfield 15, 3) := by decide +kernel
theorem dX7_sumAt_98 : decode cX7_sumAt 98 = .ok (.iload 8, 2) := by decide +kernel
theorem dX7_sumAt_100 : decode cX7_sumAt 100 = .ok (.iconst 2, 1) := by decide +kernel
theorem dX7_sumAt_101 : decode cX7_sumAt 101 = .ok (.iadd, 1) := by decide +kernel
theorem dX7_sumAt_102 : decode cX7_sumAt 102 = .ok (.iaload, 1) := by decide +kernel
theorem dX7_sumAt_103 : decode cX7_sumAt 103 = .ok (.invokestatic 32, 3) := by decide +kernel
theorem dX7_sumAt_106 : decode cX7_sumAt 106 = .ok (.lmul, 1) := by decide +kernel
theorem dX7_sumAt_107 : decode cX7_sumAt 107 = .ok (.ladd, 1) := by decide +kernel
theorem dX7_sumAt_108 : decode cX7_sumAt 108 = .ok (.lstore 5, 2) := by decide +kernel
theorem dX7_sumAt_110 : decode cX7_sumAt 110 = .ok (.iinc 7 1, 3) := by decide +kernel
theorem dX7_sumAt_113 : decode cX7_sumAt 113 = .ok (.goto (-107), 3) := by decide +kernel
theorem dX7_sumAt_116 : decode cX7_sumAt 116 = .ok (.lload 5, 2) := by decide +kernel
theorem dX7_sumAt_118 : decode cX7_sumAt 118 = .ok (.lreturn, 1) := by decide +kernel
theorem dX7_raised_0 : decode cX7_raised 0 = .ok (.lconst 1, 1) := by decide +kernel
theorem dX7_raised_1 : decode cX7_raised 1 = .ok (.lstore_n 2, 1) := by decide +kernel
theorem dX7_raised_2 : decode cX7_raised 2 = .ok (.iconst 0, 1) := by decide +kernel
theorem dX7_raised_3 : decode cX7_raised 3 = .ok (.istore 4, 2) := by decide +kernel
theorem dX7_raised_5 : decode cX7_raised 5 = .ok (.iload 4, 2) := by decide +kernel
theorem dX7_raised_7 : decode cX7_raised 7 = .ok (.iload_n 1, 1) := by decide +kernel
theorem dX7_raised_8 : decode cX7_raised 8 = .ok (.if_icmp .ge 14, 3) := by decide +kernel
theorem dX7_raised_11 : decode cX7_raised 11 = .ok (.lload_n 2, 1) := by decide +kernel
theorem dX7_raised_12 : decode cX7_raised 12 = .ok (.iload_n 0, 1) := by decide +kernel
theorem dX7_raised_13 : decode cX7_raised 13 = .ok (.i2l, 1) := by decide +kernel
theorem dX7_raised_14 : decode cX7_raised 14 = .ok (.lmul, 1) := by decide +kernel
theorem dX7_raised_15 : decode cX7_raised 15 = .ok (.lstore_n 2, 1) := by decide +kernel
theorem dX7_raised_16 : decode cX7_raised 16 = .ok (.iinc 4 1, 3) := by decide +kernel
theorem dX7_raised_19 : decode cX7_raised 19 = .ok (.goto (-14), 3) := by decide +kernel
theorem dX7_raised_22 : decode cX7_raised 22 = .ok (.lload_n 2, 1) := by decide +kernel
theorem dX7_raised_23 : decode cX7_raised 23 = .ok (.lreturn, 1) := by decide +kernel
theorem dX8_init_0 : decode cX8_init 0 = .ok (.aload_n 0, 1) := by decide +kernel
theorem dX8_init_1 : decode cX8_init 1 = .ok (.invokespecial 3, 3) := by decide +kernel
theorem dX8_init_4 : decode cX8_init 4 = .ok (.aload_n 0, 1) := by decide +kernel
theorem dX8_init_5 : decode cX8_init 5 = .ok (.bipush 60, 2) := by decide +kernel
theorem dX8_init_7 : decode cX8_init 7 = .ok (.newarray .int, 2) := by decide +kernel
theorem dX8_init_9 : decode cX8_init 9 = .ok (.putfield 9, 3) := by decide +kernel
theorem dX8_init_12 : decode cX8_init 12 = .ok (.aload_n 0, 1) := by decide +kernel
theorem dX8_init_13 : decode cX8_init 13 = .ok (.new 15, 3) := by decide +kernel
theorem dX8_init_16 : decode cX8_init 16 = .ok (.dup, 1) := by decide +kernel
theorem dX8_init_17 : decode cX8_init 17 = .ok (.invokespecial 17, 3) := by decide +kernel
theorem dX8_init_20 : decode cX8_init 20 = .ok (.putfield 18, 3) := by decide +kernel
theorem dX8_init_23 : decode cX8_init 23 = .ok (.aload_n 0, 1) := by decide +kernel
theorem dX8_init_24 : decode cX8_init 24 = .ok (.iconst 3, 1) := by decide +kernel
theorem dX8_init_25 : decode cX8_init 25 = .ok (.newarray .int, 2) := by decide +kernel
theorem dX8_init_27 : decode cX8_init 27 = .ok (.putfield 22, 3) := by decide +kernel
theorem dX8_init_30 : decode cX8_init 30 = .ok (.return_, 1) := by decide +kernel
theorem dX8_append_0 : decode cX8_append 0 = .ok (.aload_n 0, 1) := by decide +kernel
theorem dX8_append_1 : decode cX8_append 1 = .ok (.getfield 25, 3) := by decide +kernel
theorem dX8_append_4 : decode cX8_append 4 = .ok (.bipush 60, 2) := by decide +kernel
theorem dX8_append_6 : decode cX8_append 6 = .ok (.if_icmp .ge 23, 3) := by decide +kernel
theorem dX8_append_9 : decode cX8_append 9 = .ok (.aload_n 0, 1) := by decide +kernel
theorem dX8_append_10 : decode cX8_append 10 = .ok (.getfield 9, 3) := by decide +kernel
theorem dX8_append_13 : decode cX8_append 13 = .ok (.aload_n 0, 1) := by decide +kernel
theorem dX8_append_14 : decode cX8_append 14 = .ok (.getfield 25, 3) := by decide +kernel
theorem dX8_append_17 : decode cX8_append 17 = .ok (.iload_n 1, 1) := by decide +kernel
theorem dX8_append_18 : decode cX8_append 18 = .ok (.iastore, 1) := by decide +kernel
theorem dX8_append_19 : decode cX8_append 19 = .ok (.aload_n 0, 1) := by decide +kernel
theorem dX8_append_20 : decode cX8_append 20 = .ok (.dup, 1) := by decide +kernel
theorem dX8_append_21 : decode cX8_append 21 = .ok (.getfield 25, 3) := by decide +kernel
theorem dX8_append_24 : decode cX8_append 24 = .ok (.iconst 1, 1) := by decide +kernel
theorem dX8_append_25 : decode cX8_append 25 = .ok (.iadd, 1) := by decide +kernel
theorem dX8_append_26 : decode cX8_append 26 = .ok (.putfield 25, 3) := by decide +kernel
theorem dX8_append_29 : decode cX8_append 29 = .ok (.return_, 1) := by decide +kernel
theorem dX8_isFunction_0 : decode cX8_isFunction 0 = .ok (.aload_n 0, 1) := by decide +kernel
theorem dX8_isFunction_1 : decode cX8_isFunction 1 = .ok (.getfield 18, 3) := by decide +kernel
theorem dX8_isFunction_4 : decode cX8_isFunction 4 = .ok (.iconst 0, 1) := by decide +kernel
theorem dX8_isFunction_5 : decode cX8_isFunction 5 = .ok (.putfield 29, 3) := by decide +kernel
theorem dX8_isFunction_8 : decode cX8_isFunction 8 = .ok (.aload_n 0, 1) := by decide +kernel
theorem dX8_isFunction_9 : decode cX8_isFunction 9 = .ok (.iconst 0, 1) := by decide +kernel
theorem dX8_isFunction_10 : decode cX8_isFunction 10 = .ok (.putfield 32, 3) := by decide +kernel
theorem dX8_isFunction_13 : decode cX8_isFunction 13 = .ok (.aload_n 0, 1) := by decide +kernel
theorem dX8_isFunction_14 : decode cX8_isFunction 14 = .ok (.iconst 0, 1) := by decide +kernel
theorem dX8_isFunction_15 : decode cX8_isFunction 15 = .ok (.putfield 35, 3) := by decide +kernel
theorem dX8_isFunction_18 : decode cX8_isFunction 18 = .ok (.aload_n 0, 1) := by decide +kernel
theorem dX8_isFunction_19 : decode cX8_isFunction 19 = .ok (.iconst 0, 1) := by decide +kernel
theorem dX8_isFunction_20 : decode cX8_isFunction 20 = .ok (.invokevirtual 38, 3) := by decide +kernel
theorem dX8_isFunction_23 : decode cX8_isFunction 23 = .ok (.iconst 0, 1) := by decide +kernel
theorem dX8_isFunction_24 : decode cX8_isFunction 24 = .ok (.istore_n 2, 1) := by decide +kernel
theorem dX8_isFunction_25 : decode cX8_isFunction 25 = .ok (.iload_n 2, 1) := by decide +kernel
theorem dX8_isFunction_26 : decode cX8_isFunction 26 = .ok (.aload_n 0, 1) := by decide +kernel
theorem dX8_isFunction_27 : decode cX8_isFunction 27 = .ok (.getfield 25, 3) := by decide +kernel
theorem dX8_isFunction_30 : decode cX8_isFunction 30 = .ok (.if_icmp .ge 28, 3) := by decide +kernel
theorem dX8_isFunction_33 : decode cX8_isFunction 33 = .ok (.aload_n 0, 1) := by decide +kernel
theorem dX8_isFunction_34 : decode cX8_isFunction 34 = .ok (.getfield 35, 3) := by decide +kernel
theorem dX8_isFunction_37 : decode cX8_isFunction 37 = .ok (.ifCond .ne 21, 3) := by decide +kernel
theorem dX8_isFunction_40 : decode cX8_isFunction 40 = .ok (.aload_n 0, 1) := by decide +kernel
theorem dX8_isFunction_41 : decode cX8_isFunction 41 = .ok (.iload_n 2, 1) := by decide +kernel
theorem dX8_isFunction_42 : decode cX8_isFunction 42 = .ok (.aload_n 0, 1) := by decide +kernel
theorem dX8_isFunction_43 : decode cX8_isFunction 43 = .ok (.getfield 9, 3) := by decide +kernel
theorem dX8_isFunction_46 : decode cX8_isFunction 46 = .ok (.iload_n 2, 1) := by decide +kernel
theorem dX8_isFunction_47 : decode cX8_isFunction 47 = .ok (.iaload, 1) := by decide +kernel
theorem dX8_isFunction_48 : decode cX8_isFunction 48 = .ok (.iload_n 1, 1) := by decide +kernel
theorem dX8_isFunction_49 : decode cX8_isFunction 49 = .ok (.invokevirtual 42, 3) := by decide +kernel
theorem dX8_isFunction_52 : decode cX8_isFunction 52 = .ok (.iinc 2 1, 3) := by decide +kernel
theorem dX8_isFunction_55 : decode cX8_isFunction 55 = .ok (.goto (-30), 3) := by decide +kernel
theorem dX8_isFunction_58 : decode cX8_isFunction 58 = .ok (.aload_n 0, 1) := by decide +kernel
theorem dX8_isFunction_59 : decode cX8_isFunction 59 = .ok (.getfield 35, 3) := by decide +kernel
theorem dX8_isFunction_62 : decode cX8_isFunction 62 = .ok (.ifCond .ne 7, 3) := by decide +kernel
theorem dX8_isFunction_65 : decode cX8_isFunction 65 = .ok (.aload_n 0, 1) := by decide +kernel
theorem dX8_isFunction_66 : decode cX8_isFunction 66 = .ok (.invokevirtual 46, 3) := by decide +kernel
theorem dX8_isFunction_69 : decode cX8_isFunction 69 = .ok (.aload_n 0, 1) := by decide +kernel
theorem dX8_isFunction_70 : decode cX8_isFunction 70 = .ok (.getfield 35, 3) := by decide +kernel
theorem dX8_isFunction_73 : decode cX8_isFunction 73 = .ok (.ifCond .ne 7, 3) := by decide +kernel
theorem dX8_isFunction_76 : decode cX8_isFunction 76 = .ok (.iconst 1, 1) := by decide +kernel
theorem dX8_isFunction_77 : decode cX8_isFunction 77 = .ok (.goto 4, 3) := by decide +kernel
theorem dX8_isFunction_80 : decode cX8_isFunction 80 = .ok (.iconst 0, 1) := by decide +kernel
theorem dX8_isFunction_81 : decode cX8_isFunction 81 = .ok (.ireturn, 1) := by decide +kernel
theorem dX8_scanCharacter_0 : decode cX8_scanCharacter 0 = .ok (.iload_n 2, 1) := by decide +kernel
theorem dX8_scanCharacter_1 : decode cX8_scanCharacter 1 = .ok (.bipush 120, 2) := by decide +kernel
theorem dX8_scanCharacter_3 : decode cX8_scanCharacter 3 = .ok (.bipush 122, 2) := by decide +kernel
theorem dX8_scanCharacter_5 : decode cX8_scanCharacter 5 = .ok (.invokestatic 49, 3) := by decide +kernel
theorem dX8_scanCharacter_8 : decode cX8_scanCharacter 8 = .ok (.ifCond .eq 16, 3) := by decide +kernel
theorem dX8_scanCharacter_11 : decode cX8_scanCharacter 11 = .ok (.aload_n 0, 1) := by decide +kernel
theorem dX8_scanCharacter_12 : decode cX8_scanCharacter 12 = .ok (.iload_n 1, 1) := by decide +kernel
theorem dX8_scanCharacter_13 : decode cX8_scanCharacter 13 = .ok (.iload_n 2, 1) := by decide +kernel
theorem dX8_scanCharacter_14 : decode cX8_scanCharacter 14 = .ok (.bipush 120, 2) := by decide +kernel
theorem dX8_scanCharacter_16 : decode cX8_scanCharacter 16 = .ok (.isub, 1) := by decide +kernel
theorem dX8_scanCharacter_17 : decode cX8_scanCharacter 17 = .ok (.iload_n 3, 1) := by decide +kernel
theorem dX8_scanCharacter_18 : decode cX8_scanCharacter 18 = .ok (.invokevirtual 53, 3) := by decide +kernel
theorem dX8_scanCharacter_21 : decode cX8_scanCharacter 21 = .ok (.goto 63, 3) := by decide +kernel
theorem dX8_scanCharacter_24 : decode cX8_scanCharacter 24 = .ok (.iload_n 2, 1) := by decide +kernel
theorem dX8_scanCharacter_25 : decode cX8_scanCharacter 25 = .ok (.bipush 48, 2) := by decide +kernel
theorem dX8_scanCharacter_27 : decode cX8_scanCharacter 27 = .ok (.bipush 57, 2) := by decide +kernel
theorem dX8_scanCharacter_29 : decode cX8_scanCharacter 29 = .ok (.invokestatic 49, 3) := by decide +kernel
theorem dX8_scanCharacter_32 : decode cX8_scanCharacter 32 = .ok (.ifCond .eq 15, 3) := by decide +kernel
theorem dX8_scanCharacter_35 : decode cX8_scanCharacter 35 = .ok (.aload_n 0, 1) := by decide +kernel
theorem dX8_scanCharacter_36 : decode cX8_scanCharacter 36 = .ok (.iload_n 1, 1) := by decide +kernel
theorem dX8_scanCharacter_37 : decode cX8_scanCharacter 37 = .ok (.iload_n 2, 1) := by decide +kernel
theorem dX8_scanCharacter_38 : decode cX8_scanCharacter 38 = .ok (.bipush 48, 2) := by decide +kernel
theorem dX8_scanCharacter_40 : decode cX8_scanCharacter 40 = .ok (.isub, 1) := by decide +kernel
theorem dX8_scanCharacter_41 : decode cX8_scanCharacter 41 = .ok (.invokevirtual 56, 3) := by decide +kernel
theorem dX8_scanCharacter_44 : decode cX8_scanCharacter 44 = .ok (.goto 40, 3) := by decide +kernel
theorem dX8_scanCharacter_47 : decode cX8_scanCharacter 47 = .ok (.iload_n 2, 1) := by decide +kernel
theorem dX8_scanCharacter_48 : decode cX8_scanCharacter 48 = .ok (.bipush 43, 2) := by decide +kernel
theorem dX8_scanCharacter_50 : decode cX8_scanCharacter 50 = .ok (.if_icmp .eq 9, 3) := by decide +kernel
theorem dX8_scanCharacter_53 : decode cX8_scanCharacter 53 = .ok (.iload_n 2, 1) := by decide +kernel
theorem dX8_scanCharacter_54 : decode cX8_scanCharacter 54 = .ok (.bipush 45, 2) := by decide +kernel
theorem dX8_scanCharacter_56 : decode cX8_scanCharacter 56 = .ok (.if_icmp .ne 22, 3) := by decide +kernel
theorem dX8_scanCharacter_59 : decode cX8_scanCharacter 59 = .ok (.aload_n 0, 1) := by decide +kernel
theorem dX8_scanCharacter_60 : decode cX8_scanCharacter 60 = .ok (.iload_n 1, 1) := by decide +kernel
theorem dX8_scanCharacter_61 : decode cX8_scanCharacter 61 = .ok (.iload_n 2, 1) := by decide +kernel
theorem dX8_scanCharacter_62 : decode cX8_scanCharacter 62 = .ok (.bipush 45, 2) := by decide +kernel
theorem dX8_scanCharacter_64 : decode cX8_scanCharacter 64 = .ok (.if_icmp .ne 7, 3) := by decide +kernel
theorem dX8_scanCharacter_67 : decode cX8_scanCharacter 67 = .ok (.iconst 1, 1) := by decide +kernel
theorem dX8_scanCharacter_68 : decode cX8_scanCharacter 68 = .ok (.goto 4, 3) := by decide +kernel
theorem dX8_scanCharacter_71 : decode cX8_scanCharacter 71 = .ok (.iconst 0, 1) := by decide +kernel
theorem dX8_scanCharacter_72 : decode cX8_scanCharacter 72 = .ok (.invokevirtual 60, 3) := by decide +kernel
theorem dX8_scanCharacter_75 : decode cX8_scanCharacter 75 = .ok (.goto 9, 3) := by decide +kernel
theorem dX8_scanCharacter_78 : decode cX8_scanCharacter 78 = .ok (.aload_n 0, 1) := by decide +kernel
theorem dX8_scanCharacter_79 : decode cX8_scanCharacter 79 = .ok (.iload_n 1, 1) := by decide +kernel
theorem dX8_scanCharacter_80 : decode cX8_scanCharacter 80 = .ok (.iconst 1, 1) := by decide +kernel
theorem dX8_scanCharacter_81 : decode cX8_scanCharacter 81 = .ok (.invokevirtual 64, 3) := by decide +kernel
theorem dX8_scanCharacter_84 : decode cX8_scanCharacter 84 = .ok (.return_, 1) := by decide +kernel
theorem dX8_scanLetter_0 : decode cX8_scanLetter 0 = .ok (.iload_n 2, 1) := by decide +kernel
theorem dX8_scanLetter_1 : decode cX8_scanLetter 1 = .ok (.iload_n 3, 1) := by decide +kernel
theorem dX8_scanLetter_2 : decode cX8_scanLetter 2 = .ok (.if_icmp .lt 12, 3) := by decide +kernel
theorem dX8_scanLetter_5 : decode cX8_scanLetter 5 = .ok (.aload_n 0, 1) := by decide +kernel
theorem dX8_scanLetter_6 : decode cX8_scanLetter 6 = .ok (.iload_n 1, 1) := by decide +kernel
theorem dX8_scanLetter_7 : decode cX8_scanLetter 7 = .ok (.iconst 2, 1) := by decide +kernel
theorem dX8_scanLetter_8 : decode cX8_scanLetter 8 = .ok (.invokevirtual 64, 3) := by decide +kernel
theorem dX8_scanLetter_11 : decode cX8_scanLetter 11 = .ok (.goto 40, 3) := by decide +kernel
theorem dX8_scanLetter_14 : decode cX8_scanLetter 14 = .ok (.aload_n 0, 1) := by decide +kernel
theorem dX8_scanLetter_15 : decode cX8_scanLetter 15 = .ok (.getfield 67, 3) := by decide +kernel
theorem dX8_scanLetter_18 : decode cX8_scanLetter 18 = .ok (.iconst 4, 1) := by decide +kernel
theorem dX8_scanLetter_19 : decode cX8_scanLetter 19 = .ok (.if_icmp .lt 12, 3) := by decide +kernel
theorem dX8_scanLetter_22 : decode cX8_scanLetter 22 = .ok (.aload_n 0, 1) := by decide +kernel
theorem dX8_scanLetter_23 : decode cX8_scanLetter 23 = .ok (.iload_n 1, 1) := by decide +kernel
theorem dX8_scanLetter_24 : decode cX8_scanLetter 24 = .ok (.iconst 3, 1) := by decide +kernel
theorem dX8_scanLetter_25 : decode cX8_scanLetter 25 = .ok (.invokevirtual 64, 3) := by decide +kernel
theorem dX8_scanLetter_28 : decode cX8_scanLetter 28 = .ok (.goto 23, 3) := by decide +kernel
theorem dX8_scanLetter_31 : decode cX8_scanLetter 31 = .ok (.aload_n 0, 1) := by decide +kernel
theorem dX8_scanLetter_32 : decode cX8_scanLetter 32 = .ok (.dup, 1) := by decide +kernel
theorem dX8_scanLetter_33 : decode cX8_scanLetter 33 = .ok (.getfield 67, 3) := by decide +kernel
theorem dX8_scanLetter_36 : decode cX8_scanLetter 36 = .ok (.iconst 1, 1) := by decide +kernel
theorem dX8_scanLetter_37 : decode cX8_scanLetter 37 = .ok (.iadd, 1) := by decide +kernel
theorem dX8_scanLetter_38 : decode cX8_scanLetter 38 = .ok (.putfield 67, 3) := by decide +kernel
theorem dX8_scanLetter_41 : decode cX8_scanLetter 41 = .ok (.aload_n 0, 1) := by decide +kernel
theorem dX8_scanLetter_42 : decode cX8_scanLetter 42 = .ok (.getfield 22, 3) := by decide +kernel
theorem dX8_scanLetter_45 : decode cX8_scanLetter 45 = .ok (.iload_n 2, 1) := by decide +kernel
theorem dX8_scanLetter_46 : decode cX8_scanLetter 46 = .ok (.dup2, 1) := by decide +kernel
theorem dX8_scanLetter_47 : decode cX8_scanLetter 47 = .ok (.iaload, 1) := by decide +kernel
theorem dX8_scanLetter_48 : decode cX8_scanLetter 48 = .ok (.iconst 1, 1) := by decide +kernel
theorem dX8_scanLetter_49 : decode cX8_scanLetter 49 = .ok (.iadd, 1) := by decide +kernel
theorem dX8_scanLetter_50 : decode cX8_scanLetter 50 = .ok (.iastore, 1) := by decide +kernel
theorem dX8_scanLetter_51 : decode cX8_scanLetter 51 = .ok (.return_, 1) := by decide +kernel
theorem dX8_scanDigit_0 : decode cX8_scanDigit 0 = .ok (.aload_n 0, 1) := by decide +kernel
theorem dX8_scanDigit_1 : decode cX8_scanDigit 1 = .ok (.getfield 67, 3) := by decide +kernel
theorem dX8_scanDigit_4 : decode cX8_scanDigit 4 = .ok (.ifCond .gt 22, 3) := by decide +kernel
theorem dX8_scanDigit_7 : decode cX8_scanDigit 7 = .ok (.aload_n 0, 1) := by decide +kernel
theorem dX8_scanDigit_8 : decode cX8_scanDigit 8 = .ok (.getfield 70, 3) := by decide +kernel
theorem dX8_scanDigit_11 : decode cX8_scanDigit 11 = .ok (.iconst 2, 1) := by decide +kernel
theorem dX8_scanDigit_12 : decode cX8_scanDigit 12 = .ok (.if_icmp .ge 14, 3) := by decide +kernel
theorem dX8_scanDigit_15 : decode cX8_scanDigit 15 = .ok (.aload_n 0, 1) := by decide +kernel
theorem dX8_scanDigit_16 : decode cX8_scanDigit 16 = .ok (.getfield 70, 3) := by decide +kernel
theorem dX8_scanDigit_19 : decode cX8_scanDigit 19 = .ok (.ifCond .ne 16, 3) := by decide +kernel
theorem dX8_scanDigit_22 : decode cX8_scanDigit 22 = .ok (.iload_n 2, 1) := by decide +kernel
theorem dX8_scanDigit_23 : decode cX8_scanDigit 23 = .ok (.ifCond .ne 12, 3) := by decide +kernel
theorem dX8_scanDigit_26 : decode cX8_scanDigit 26 = .ok (.aload_n 0, 1) := by decide +kernel
theorem dX8_scanDigit_27 : decode cX8_scanDigit 27 = .ok (.iload_n 1, 1) := by decide +kernel
theorem dX8_scanDigit_28 : decode cX8_scanDigit 28 = .ok (.iconst 1, 1) := by decide +kernel
theorem dX8_scanDigit_29 : decode cX8_scanDigit 29 = .ok (.invokevirtual 64, 3) := by decide +kernel
theorem dX8_scanDigit_32 : decode cX8_scanDigit 32 = .ok (.goto 26, 3) := by decide +kernel
theorem dX8_scanDigit_35 : decode cX8_scanDigit 35 = .ok (.aload_n 0, 1) := by decide +kernel
theorem dX8_scanDigit_36 : decode cX8_scanDigit 36 = .ok (.dup, 1) := by decide +kernel
theorem dX8_scanDigit_37 : decode cX8_scanDigit 37 = .ok (.getfield 70, 3) := by decide +kernel
theorem dX8_scanDigit_40 : decode cX8_scanDigit 40 = .ok (.iconst 1, 1) := by decide +kernel
theorem dX8_scanDigit_41 : decode cX8_scanDigit 41 = .ok (.iadd, 1) := by decide +kernel
theorem dX8_scanDigit_42 : decode cX8_scanDigit 42 = .ok (.putfield 70, 3) := by decide +kernel
theorem dX8_scanDigit_45 : decode cX8_scanDigit 45 = .ok (.aload_n 0, 1) := by decide +kernel
theorem dX8_scanDigit_46 : decode cX8_scanDigit 46 = .ok (.bipush 10, 2) := by decide +kernel
theorem dX8_scanDigit_48 : decode cX8_scanDigit 48 = .ok (.aload_n 0, 1) := by decide +kernel
theorem dX8_scanDigit_49 : decode cX8_scanDigit 49 = .ok (.getfield 73, 3) := by decide +kernel
theorem dX8_scanDigit_52 : decode cX8_scanDigit 52 = .ok (.imul, 1) := by decide +kernel
theorem dX8_scanDigit_53 : decode cX8_scanDigit 53 = .ok (.iload_n 2, 1) := by decide +kernel
theorem dX8_scanDigit_54 : decode cX8_scanDigit 54 = .ok (.iadd, 1) := by decide +kernel
theorem dX8_scanDigit_55 : decode cX8_scanDigit 55 = .ok (.putfield 73, 3) := by decide +kernel
theorem dX8_scanDigit_58 : decode cX8_scanDigit 58 = .ok (.return_, 1) := by decide +kernel
theorem dX8_scanSign_0 : decode cX8_scanSign 0 = .ok (.aload_n 0, 1) := by decide +kernel
theorem dX8_scanSign_1 : decode cX8_scanSign 1 = .ok (.invokevirtual 76, 3) := by decide +kernel
theorem dX8_scanSign_4 : decode cX8_scanSign 4 = .ok (.ifCond .eq 28, 3) := by decide +kernel
theorem dX8_scanSign_7 : decode cX8_scanSign 7 = .ok (.iload_n 1, 1) := by decide +kernel
theorem dX8_scanSign_8 : decode cX8_scanSign 8 = .ok (.ifCond .ne 15, 3) := by decide +kernel
theorem dX8_scanSign_11 : decode cX8_scanSign 11 = .ok (.iload_n 2, 1) := by decide +kernel
theorem dX8_scanSign_12 : decode cX8_scanSign 12 = .ok (.ifCond .eq 11, 3) := by decide +kernel
theorem dX8_scanSign_15 : decode cX8_scanSign 15 = .ok (.aload_n 0, 1) := by decide +kernel
theorem dX8_scanSign_16 : decode cX8_scanSign 16 = .ok (.iconst 1, 1) := by decide +kernel
theorem dX8_scanSign_17 : decode cX8_scanSign 17 = .ok (.putfield 80, 3) := by decide +kernel
theorem dX8_scanSign_20 : decode cX8_scanSign 20 = .ok (.goto 44, 3) := by decide +kernel
theorem dX8_scanSign_23 : decode cX8_scanSign 23 = .ok (.aload_n 0, 1) := by decide +kernel
theorem dX8_scanSign_24 : decode cX8_scanSign 24 = .ok (.iload_n 1, 1) := by decide +kernel
theorem dX8_scanSign_25 : decode cX8_scanSign 25 = .ok (.iconst 1, 1) := by decide +kernel
theorem dX8_scanSign_26 : decode cX8_scanSign 26 = .ok (.invokevirtual 64, 3) := by decide +kernel
theorem dX8_scanSign_29 : decode cX8_scanSign 29 = .ok (.goto 35, 3) := by decide +kernel
theorem dX8_scanSign_32 : decode cX8_scanSign 32 = .ok (.aload_n 0, 1) := by decide +kernel
theorem dX8_scanSign_33 : decode cX8_scanSign 33 = .ok (.getfield 18, 3) := by decide +kernel
theorem dX8_scanSign_36 : decode cX8_scanSign 36 = .ok (.getfield 29, 3) := by decide +kernel
theorem dX8_scanSign_39 : decode cX8_scanSign 39 = .ok (.iconst 1, 1) := by decide +kernel
theorem dX8_scanSign_40 : decode cX8_scanSign 40 = .ok (.iadd, 1) := by decide +kernel
theorem dX8_scanSign_41 : decode cX8_scanSign 41 = .ok (.bipush 10, 2) := by decide +kernel
theorem dX8_scanSign_43 : decode cX8_scanSign 43 = .ok (.if_icmp .lt 12, 3) := by decide +kernel
theorem dX8_scanSign_46 : decode cX8_scanSign 46 = .ok (.aload_n 0, 1) := by decide +kernel
theorem dX8_scanSign_47 : decode cX8_scanSign 47 = .ok (.iload_n 1, 1) := by decide +kernel
theorem dX8_scanSign_48 : decode cX8_scanSign 48 = .ok (.iconst 4, 1) := by decide +kernel
theorem dX8_scanSign_49 : decode cX8_scanSign 49 = .ok (.invokevirtual 64, 3) := by decide +kernel
theorem dX8_scanSign_52 : decode cX8_scanSign 52 = .ok (.goto 12, 3) := by decide +kernel
theorem dX8_scanSign_55 : decode cX8_scanSign 55 = .ok (.aload_n 0, 1) := by decide +kernel
theorem dX8_scanSign_56 : decode cX8_scanSign 56 = .ok (.invokevirtual 84, 3) := by decide +kernel
theorem dX8_scanSign_59 : decode cX8_scanSign 59 = .ok (.aload_n 0, 1) := by decide +kernel
theorem dX8_scanSign_60 : decode cX8_scanSign 60 = .ok (.iload_n 2, 1) := by decide +kernel
theorem dX8_scanSign_61 : decode cX8_scanSign 61 = .ok (.invokevirtual 38, 3) := by decide +kernel
theorem dX8_scanSign_64 : decode cX8_scanSign 64 = .ok (.return_, 1) := by decide +kernel
theorem dX8_scanEnd_0 : decode cX8_scanEnd 0 = .ok (.aload_n 0, 1) := by decide +kernel
theorem dX8_scanEnd_1 : decode cX8_scanEnd 1 = .ok (.invokevirtual 76, 3) := by decide +kernel
theorem dX8_scanEnd_4 : decode cX8_scanEnd 4 = .ok (.ifCond .eq 15, 3) := by decide +kernel
theorem dX8_scanEnd_7 : decode cX8_scanEnd 7 = .ok (.aload_n 0, 1) := by decide +kernel
theorem dX8_scanEnd_8 : decode cX8_scanEnd 8 = .ok (.aload_n 0, 1) := by decide +kernel
theorem dX8_scanEnd_9 : decode cX8_scanEnd 9 = .ok (.getfield 25, 3) := by decide +kernel
theorem dX8_scanEnd_12 : decode cX8_scanEnd 12 = .ok (.iconst 1, 1) := by decide +kernel
theorem dX8_scanEnd_13 : decode cX8_scanEnd 13 = .ok (.invokevirtual 64, 3) := by decide +kernel
theorem dX8_scanEnd_16 : decode cX8_scanEnd 16 = .ok (.goto 7, 3) := by decide +kernel
theorem dX8_scanEnd_19 : decode cX8_scanEnd 19 = .ok (.aload_n 0, 1) := by decide +kernel
theorem dX8_scanEnd_20 : decode cX8_scanEnd 20 = .ok (.invokevirtual 84, 3) := by decide +kernel
theorem dX8_scanEnd_23 : decode cX8_scanEnd 23 = .ok (.return_, 1) := by decide +kernel
theorem dX8_termIsEmpty_0 : decode cX8_termIsEmpty 0 = .ok (.aload_n 0, 1) := by decide +kernel
theorem dX8_termIsEmpty_1 : decode cX8_termIsEmpty 1 = .ok (.getfield 70, 3) := by decide +kernel
theorem dX8_termIsEmpty_4 : decode cX8_termIsEmpty 4 = .ok (.ifCond .ne 14, 3) := by decide +kernel
theorem dX8_termIsEmpty_7 : decode cX8_termIsEmpty 7 = .ok (.aload_n 0, 1) := by decide +kernel
theorem dX8_termIsEmpty_8 : decode cX8_termIsEmpty 8 = .ok (.getfield 67, 3) := by decide +kernel
theorem dX8_termIsEmpty_11 : decode cX8_termIsEmpty 11 = .ok (.ifCond .ne 7, 3) := by decide +kernel
theorem dX8_termIsEmpty_14 : decode cX8_termIsEmpty 14 = .ok (.iconst 1, 1) := by decide +kernel
theorem dX8_termIsEmpty_15 : decode cX8_termIsEmpty 15 = .ok (.goto 4, 3) := by decide +kernel
theorem dX8_termIsEmpty_18 : decode cX8_termIsEmpty 18 = .ok (.iconst 0, 1) := by decide +kernel
theorem dX8_termIsEmpty_19 : decode cX8_termIsEmpty 19 = .ok (.ireturn, 1) := by decide +kernel
theorem dX8_beginTerm_0 : decode cX8_beginTerm 0 = .ok (.aload_n 0, 1) := by decide +kernel
theorem dX8_beginTerm_1 : decode cX8_beginTerm 1 = .ok (.iload_n 1, 1) := by decide +kernel
theorem dX8_beginTerm_2 : decode cX8_beginTerm 2 = .ok (.putfield 80, 3) := by decide +kernel
theorem dX8_beginTerm_5 : decode cX8_beginTerm 5 = .ok (.aload_n 0, 1) := by decide +kernel
theorem dX8_beginTerm_6 : decode cX8_beginTerm 6 = .ok (.iconst 0, 1) := by decide +kernel
theorem dX8_beginTerm_7 : decode cX8_beginTerm 7 = .ok (.putfield 70, 3) := by decide +kernel
theorem dX8_beginTerm_10 : decode cX8_beginTerm 10 = .ok (.aload_n 0, 1) := by decide +kernel
theorem dX8_beginTerm_11 : decode cX8_beginTerm 11 = .ok (.iconst 0, 1) := by decide +kernel
theorem dX8_beginTerm_12 : decode cX8_beginTerm 12 = .ok (.putfield 73, 3) := by decide +kernel
theorem dX8_beginTerm_15 : decode cX8_beginTerm 15 = .ok (.aload_n 0, 1) := by decide +kernel
theorem dX8_beginTerm_16 : decode cX8_beginTerm 16 = .ok (.iconst 0, 1) := by decide +kernel
theorem dX8_beginTerm_17 : decode cX8_beginTerm 17 = .ok (.putfield 67, 3) := by decide +kernel
theorem dX8_beginTerm_20 : decode cX8_beginTerm 20 = .ok (.iconst 0, 1) := by decide +kernel
theorem dX8_beginTerm_21 : decode cX8_beginTerm 21 = .ok (.istore_n 2, 1) := by decide +kernel
theorem dX8_beginTerm_22 : decode cX8_beginTerm 22 = .ok (.iload_n 2, 1) := by decide +kernel
theorem dX8_beginTerm_23 : decode cX8_beginTerm 23 = .ok (.iconst 3, 1) := by decide +kernel
theorem dX8_beginTerm_24 : decode cX8_beginTerm 24 = .ok (.if_icmp .ge 16, 3) := by decide +kernel
theorem dX8_beginTerm_27 : decode cX8_beginTerm 27 = .ok (.aload_n 0, 1) := by decide +kernel
theorem dX8_beginTerm_28 : decode cX8_beginTerm 28 = .ok (.getfield 22, 3) := by decide +kernel
theorem dX8_beginTerm_31 : decode cX8_beginTerm 31 = .ok (.iload_n 2, 1) := by decide +kernel
theorem dX8_beginTerm_32 : decode cX8_beginTerm 32 = .ok (.iconst 0, 1) := by decide +kernel
theorem dX8_beginTerm_33 : decode cX8_beginTerm 33 = .ok (.iastore, 1) := by decide +kernel
theorem dX8_beginTerm_34 : decode cX8_beginTerm 34 = .ok (.iinc 2 1, 3) := by decide +kernel
theorem dX8_beginTerm_37 : decode cX8_beginTerm 37 = .ok (.goto (-15), 3) := by decide +kernel
theorem dX8_beginTerm_40 : decode cX8_beginTerm 40 = .ok (.return_, 1) := by decide +kernel
theorem dX8_endTerm_0 : decode cX8_endTerm 0 = .ok (.aload_n 0, 1) := by decide +kernel
theorem dX8_endTerm_1 : decode cX8_endTerm 1 = .ok (.getfield 70, 3) := by decide +kernel
theorem dX8_endTerm_4 : decode cX8_endTerm 4 = .ok (.ifCond .ne 7, 3) := by decide +kernel
theorem dX8_endTerm_7 : decode cX8_endTerm 7 = .ok (.iconst 1, 1) := by decide +kernel
theorem dX8_endTerm_8 : decode cX8_endTerm 8 = .ok (.goto 7, 3) := by decide +kernel
theorem dX8_endTerm_11 : decode cX8_endTerm 11 = .ok (.aload_n 0, 1) := by decide +kernel
theorem dX8_endTerm_12 : decode cX8_endTerm 12 = .ok (.getfield 73, 3) := by decide +kernel
theorem dX8_endTerm_15 : decode cX8_endTerm 15 = .ok (.istore_n 1, 1) := by decide +kernel
theorem dX8_endTerm_16 : decode cX8_endTerm 16 = .ok (.aload_n 0, 1) := by decide +kernel
theorem dX8_endTerm_17 : decode cX8_endTerm 17 = .ok (.getfield 18, 3) := by decide +kernel
theorem dX8_endTerm_20 : decode cX8_endTerm 20 = .ok (.aload_n 0, 1) := by decide +kernel
theorem dX8_endTerm_21 : decode cX8_endTerm 21 = .ok (.getfield 80, 3) := by decide +kernel
theorem dX8_endTerm_24 : decode cX8_endTerm 24 = .ok (.ifCond .eq 8, 3) := by decide +kernel
theorem dX8_endTerm_27 : decode cX8_endTerm 27 = .ok (.iload_n 1, 1) := by decide +kernel
theorem dX8_endTerm_28 : decode cX8_endTerm 28 = .ok (.ineg, 1) := by decide +kernel
theorem dX8_endTerm_29 : decode cX8_endTerm 29 = .ok (.goto 4, 3) := by decide +kernel
theorem dX8_endTerm_32 : decode cX8_endTerm 32 = .ok (.iload_n 1, 1) := by decide +kernel
theorem dX8_endTerm_33 : decode cX8_endTerm 33 = .ok (.aload_n 0, 1) := by decide +kernel
theorem dX8_endTerm_34 : decode cX8_endTerm 34 = .ok (.getfield 22, 3) := by decide +kernel
theorem dX8_endTerm_37 : decode cX8_endTerm 37 = .ok (.iconst 0, 1) := by decide +kernel
theorem dX8_endTerm_38 : decode cX8_endTerm 38 = .ok (.iaload, 1) := by decide +kernel
theorem dX8_endTerm_39 : decode cX8_endTerm 39 = .ok (.aload_n 0, 1) := by decide +kernel
theorem dX8_endTerm_40 : decode cX8_endTerm 40 = .ok (.getfield 22, 3) := by decide +kernel
theorem dX8_endTerm_43 : decode cX8_endTerm 43 = .ok (.iconst 1, 1) := by decide +kernel
theorem dX8_endTerm_44 : decode cX8_endTerm 44 = .ok (.iaload, 1) := by decide +kernel
theorem dX8_endTerm_45 : decode cX8_endTerm 45 = .ok (.aload_n 0, 1) := by decide +kernel
theorem dX8_endTerm_46 : decode cX8_endTerm 46 = .ok (.getfield 22, 3) := by decide +kernel
theorem dX8_endTerm_49 : decode cX8_endTerm 49 = .ok (.iconst 2, 1) := by decide +kernel
theorem dX8_endTerm_50 : decode cX8_endTerm 50 = .ok (.iaload, 1) := by decide +kernel
theorem dX8_endTerm_51 : decode cX8_endTerm 51 = .ok (.invokevirtual 87, 3) := by decide +kernel
theorem dX8_endTerm_54 : decode cX8_endTerm 54 = .ok (.return_, 1) := by decide +kernel
theorem dX8_setFault_0 : decode cX8_setFault 0 = .ok (.aload_n 0, 1) := by decide +kernel
theorem dX8_setFault_1 : decode cX8_setFault 1 = .ok (.iload_n 1, 1) := by decide +kernel
theorem dX8_setFault_2 : decode cX8_setFault 2 = .ok (.putfield 32, 3) := by decide +kernel
theorem dX8_setFault_5 : decode cX8_setFault 5 = .ok (.aload_n 0, 1) := by decide +kernel
theorem dX8_setFault_6 : decode cX8_setFault 6 = .ok (.iload_n 2, 1) := by decide +kernel
theorem dX8_setFault_7 : decode cX8_setFault 7 = .ok (.putfield 35, 3) := by decide +kernel
theorem dX8_setFault_10 : decode cX8_setFault 10 = .ok (.return_, 1) := by decide +kernel
theorem dX9_init_0 : decode cX9_init 0 = .ok (.aload_n 0, 1) := by decide +kernel
theorem dX9_init_1 : decode cX9_init 1 = .ok (.invokespecial 3, 3) := by decide +kernel
theorem dX9_init_4 : decode cX9_init 4 = .ok (.aload_n 0, 1) := by decide +kernel
theorem dX9_init_5 : decode cX9_init 5 = .ok (.bipush 8, 2) := by decide +kernel
theorem dX9_init_7 : decode cX9_init 7 = .ok (.newarray .int, 2) := by decide +kernel
theorem dX9_init_9 : decode cX9_init 9 = .ok (.putfield 9, 3) := by decide +kernel
theorem dX9_init_12 : decode cX9_init 12 = .ok (.aload_n 0, 1) := by decide +kernel
theorem dX9_init_13 : decode cX9_init 13 = .ok (.bipush 8, 2) := by decide +kernel
theorem dX9_init_15 : decode cX9_init 15 = .ok (.newarray .long, 2) := by decide +kernel
theorem dX9_init_17 : decode cX9_init 17 = .ok (.putfield 15, 3) := by decide +kernel
theorem dX9_init_20 : decode cX9_init 20 = .ok (.aload_n 0, 1) := by decide +kernel
theorem dX9_init_21 : decode cX9_init 21 = .ok (.bipush 8, 2) := by decide +kernel
theorem dX9_init_23 : decode cX9_init 23 = .ok (.newarray .long, 2) := by decide +kernel
theorem dX9_init_25 : decode cX9_init 25 = .ok (.putfield 19, 3) := by decide +kernel
theorem dX9_init_28 : decode cX9_init 28 = .ok (.return_, 1) := by decide +kernel
theorem dX9_gather_0 : decode cX9_gather 0 = .ok (.aload_n 0, 1) := by decide +kernel
theorem dX9_gather_1 : decode cX9_gather 1 = .ok (.iconst 0, 1) := by decide +kernel
theorem dX9_gather_2 : decode cX9_gather 2 = .ok (.putfield 22, 3) := by decide +kernel
theorem dX9_gather_5 : decode cX9_gather 5 = .ok (.aload_n 0, 1) := by decide +kernel
theorem dX9_gather_6 : decode cX9_gather 6 = .ok (.aload_n 1, 1) := by decide +kernel
theorem dX9_gather_7 : decode cX9_gather 7 = .ok (.invokevirtual 26, 3) := by decide +kernel
theorem dX9_gather_10 : decode cX9_gather 10 = .ok (.putfield 32, 3) := by decide +kernel
theorem dX9_gather_13 : decode cX9_gather 13 = .ok (.iconst 0, 1) := by decide +kernel
theorem dX9_gather_14 : decode cX9_gather 14 = .ok (.istore_n 3, 1) := by decide +kernel
theorem dX9_gather_15 : decode cX9_gather 15 = .ok (.iload_n 3, 1) := by decide +kernel
theorem dX9_gather_16 : decode cX9_gather 16 = .ok (.aload_n 1, 1) := by decide +kernel
theorem dX9_gather_17 : decode cX9_gather 17 = .ok (.getfield 35, 3) := by decide +kernel
theorem dX9_gather_20 : decode cX9_gather 20 = .ok (.getfield 38, 3) := by decide +kernel
theorem dX9_gather_23 : decode cX9_gather 23 = .ok (.if_icmp .ge 82, 3) := by decide +kernel
theorem dX9_gather_26 : decode cX9_gather 26 = .ok (.aload_n 1, 1) := by decide +kernel
theorem dX9_gather_27 : decode cX9_gather 27 = .ok (.iload_n 3, 1) := by decide +kernel
theorem dX9_gather_28 : decode cX9_gather 28 = .ok (.iconst 0, 1) := by decide +kernel
theorem dX9_gather_29 : decode cX9_gather 29 = .ok (.iload_n 2, 1) := by decide +kernel
theorem dX9_gather_30 : decode cX9_gather 30 = .ok (.invokevirtual 41, 3) := by decide +kernel
theorem dX9_gather_33 : decode cX9_gather 33 = .ok (.istore 4, 2) := by decide +kernel
theorem dX9_gather_35 : decode cX9_gather 35 = .ok (.aload_n 1, 1) := by decide +kernel
theorem dX9_gather_36 : decode cX9_gather 36 = .ok (.iload_n 3, 1) := by decide +kernel
theorem dX9_gather_37 : decode cX9_gather 37 = .ok (.iconst 1, 1) := by decide +kernel
theorem dX9_gather_38 : decode cX9_gather 38 = .ok (.iload_n 2, 1) := by decide +kernel
theorem dX9_gather_39 : decode cX9_gather 39 = .ok (.invokevirtual 41, 3) := by decide +kernel
theorem dX9_gather_42 : decode cX9_gather 42 = .ok (.istore 5, 2) := by decide +kernel
theorem dX9_gather_44 : decode cX9_gather 44 = .ok (.aload_n 1, 1) := by decide +kernel
theorem dX9_gather_45 : decode cX9_gather 45 = .ok (.iload_n 3, 1) := by decide +kernel
theorem dX9_gather_46 : decode cX9_gather 46 = .ok (.iconst 2, 1) := by decide +kernel
theorem dX9_gather_47 : decode cX9_gather 47 = .ok (.iload_n 2, 1) := by decide +kernel
theorem dX9_gather_48 : decode cX9_gather 48 = .ok (.invokevirtual 41, 3) := by decide +kernel
theorem dX9_gather_51 : decode cX9_gather 51 = .ok (.istore 6, 2) := by decide +kernel
theorem dX9_gather_53 : decode cX9_gather 53 = .ok (.aload_n 1, 1) := by decide +kernel
theorem dX9_gather_54 : decode cX9_gather 54 = .ok (.getfield 45, 3) := by decide +kernel
theorem dX9_gather_57 : decode cX9_gather 57 = .ok (.iload 4, 2) := by decide +kernel
theorem dX9_gather_59 : decode cX9_gather 59 = .ok (.iload 5, 2) := by decide +kernel
theorem dX9_gather_61 : decode cX9_gather 61 = .ok (.iload 6, 2) := by decide +kernel
theorem dX9_gather_63 : decode cX9_gather 63 = .ok (.invokevirtual 49, 3) := by decide +kernel
theorem dX9_gather_66 : decode cX9_gather 66 = .ok (.ifCond .eq 33, 3) := by decide +kernel
theorem dX9_gather_69 : decode cX9_gather 69 = .ok (.aload_n 0, 1) := by decide +kernel
theorem dX9_gather_70 : decode cX9_gather 70 = .ok (.iload_n 3, 1) := by decide +kernel
theorem dX9_gather_71 : decode cX9_gather 71 = .ok (.aload_n 1, 1) := by decide +kernel
theorem dX9_gather_72 : decode cX9_gather 72 = .ok (.iload_n 3, 1) := by decide +kernel
theorem dX9_gather_73 : decode cX9_gather 73 = .ok (.iload 4, 2) := by decide +kernel
theorem dX9_gather_75 : decode cX9_gather 75 = .ok (.iload 5, 2) := by decide +kernel
theorem dX9_gather_77 : decode cX9_gather 77 = .ok (.iload 6, 2) := by decide +kernel
theorem dX9_gather_79 : decode cX9_gather 79 = .ok (.invokevirtual 55, 3) := by decide +kernel
theorem dX9_gather_82 : decode cX9_gather 82 = .ok (.aload_n 1, 1) := by decide +kernel
theorem dX9_gather_83 : decode cX9_gather 83 = .ok (.getfield 59, 3) := by decide +kernel
theorem dX9_gather_86 : decode cX9_gather 86 = .ok (.iload 4, 2) := by decide +kernel
theorem dX9_gather_88 : decode cX9_gather 88 = .ok (.iload 5, 2) := by decide +kernel
theorem dX9_gather_90 : decode cX9_gather 90 = .ok (.iload 6, 2) := by decide +kernel
theorem dX9_gather_92 : decode cX9_gather 92 = .ok (.iconst 4, 1) := by decide +kernel
theorem dX9_gather_93 : decode cX9_gather 93 = .ok (.invokevirtual 63, 3) := by decide +kernel
theorem dX9_gather_96 : decode cX9_gather 96 = .ok (.invokevirtual 68, 3) := by decide +kernel
theorem dX9_gather_99 : decode cX9_gather 99 = .ok (.iinc 3 1, 3) := by decide +kernel
theorem dX9_gather_102 : decode cX9_gather 102 = .ok (.goto (-87), 3) := by decide +kernel
theorem dX9_gather_105 : decode cX9_gather 105 = .ok (.return_, 1) := by decide +kernel
theorem dX9_insert_0 : decode cX9_insert 0 = .ok (.aload_n 0, 1) := by decide +kernel
theorem dX9_insert_1 : decode cX9_insert 1 = .ok (.getfield 22, 3) := by decide +kernel
theorem dX9_insert_4 : decode cX9_insert 4 = .ok (.bipush 8, 2) := by decide +kernel
theorem dX9_insert_6 : decode cX9_insert 6 = .ok (.if_icmp .lt 4, 3) := by decide +kernel
theorem dX9_insert_9 : decode cX9_insert 9 = .ok (.return_, 1) := by decide +kernel
theorem dX9_insert_10 : decode cX9_insert 10 = .ok (.aload_n 0, 1) := by decide +kernel
theorem dX9_insert_11 : decode cX9_insert 11 = .ok (.getfield 22, 3) := by decide +kernel
theorem dX9_insert_14 : decode cX9_insert 14 = .ok (.istore 6, 2) := by decide +kernel
theorem dX9_insert_16 : decode cX9_insert 16 = .ok (.iload 6, 2) := by decide +kernel
theorem dX9_insert_18 : decode cX9_insert 18 = .ok (.ifCond .le 71, 3) := by decide +kernel
theorem dX9_insert_21 : decode cX9_insert 21 = .ok (.aload_n 0, 1) := by decide +kernel
theorem dX9_insert_22 : decode cX9_insert 22 = .ok (.getfield 15, 3) := by decide +kernel
theorem dX9_insert_25 : decode cX9_insert 25 = .ok (.iload 6, 2) := by decide +kernel
theorem dX9_insert_27 : decode cX9_insert 27 = .ok (.iconst 1, 1) := by decide +kernel
theorem dX9_insert_28 : decode cX9_insert 28 = .ok (.isub, 1) := by decide +kernel
theorem dX9_insert_29 : decode cX9_insert 29 = .ok (.laload, 1) := by decide +kernel
theorem dX9_insert_30 : decode cX9_insert 30 = .ok (.lload_n 2, 1) := by decide +kernel
theorem dX9_insert_31 : decode cX9_insert 31 = .ok (.lcmp, 1) := by decide +kernel
theorem dX9_insert_32 : decode cX9_insert 32 = .ok (.ifCond .le 57, 3) := by decide +kernel
theorem dX9_insert_35 : decode cX9_insert 35 = .ok (.aload_n 0, 1) := by decide +kernel
theorem dX9_insert_36 : decode cX9_insert 36 = .ok (.getfield 9, 3) := by decide +kernel
theorem dX9_insert_39 : decode cX9_insert 39 = .ok (.iload 6, 2) := by decide +kernel
theorem dX9_insert_41 : decode cX9_insert 41 = .ok (.aload_n 0, 1) := by decide +kernel
theorem dX9_insert_42 : decode cX9_insert 42 = .ok (.getfield 9, 3) := by decide +kernel
theorem dX9_insert_45 : decode cX9_insert 45 = .ok (.iload 6, 2) := by decide +kernel
theorem dX9_insert_47 : decode cX9_insert 47 = .ok (.iconst 1, 1) := by decide +kernel
theorem dX9_insert_48 : decode cX9_insert 48 = .ok (.isub, 1) := by decide +kernel
theorem dX9_insert_49 : decode cX9_insert 49 = .ok (.iaload, 1) := by decide +kernel
theorem dX9_insert_50 : decode cX9_insert 50 = .ok (.iastore, 1) := by decide +kernel
theorem dX9_insert_51 : decode cX9_insert 51 = .ok (.aload_n 0, 1) := by decide +kernel
theorem dX9_insert_52 : decode cX9_insert 52 = .ok (.getfield 15, 3) := by decide +kernel
theorem dX9_insert_55 : decode cX9_insert 55 = .ok (.iload 6, 2) := by decide +kernel
theorem dX9_insert_57 : decode cX9_insert 57 = .ok (.aload_n 0, 1) := by decide +kernel
theorem dX9_insert_58 : decode cX9_insert 58 = .ok (.getfield 15, 3) := by decide +kernel
theorem dX9_insert_61 : decode cX9_insert 61 = .ok (.iload 6, 2) := by decide +kernel
theorem dX9_insert_63 : decode cX9_insert 63 = .ok (.iconst 1, 1) := by decide +kernel
theorem dX9_insert_64 : decode cX9_insert 64 = .ok (.isub, 1) := by decide +kernel
theorem dX9_insert_65 : decode cX9_insert 65 = .ok (.laload, 1) := by decide +kernel
theorem dX9_insert_66 : decode cX9_insert 66 = .ok (.lastore, 1) := by decide +kernel
theorem dX9_insert_67 : decode cX9_insert 67 = .ok (.aload_n 0, 1) := by decide +kernel
theorem dX9_insert_68 : decode cX9_insert 68 = .ok (.getfield 19, 3) := by decide +kernel
theorem dX9_insert_71 : decode cX9_insert 71 = .ok (.iload 6, 2) := by decide +kernel
theorem dX9_insert_73 : decode cX9_insert 73 = .ok (.aload_n 0, 1) := by decide +kernel
theorem dX9_insert_74 : decode cX9_insert 74 = .ok (.getfield 19, 3) := by decide +kernel
theorem dX9_insert_77 : decode cX9_insert 77 = .ok (.iload 6, 2) := by decide +kernel
theorem dX9_insert_79 : decode cX9_insert 79 = .ok (.iconst 1, 1) := by decide +kernel
theorem dX9_insert_80 : decode cX9_insert 80 = .ok (.isub, 1) := by decide +kernel
theorem dX9_insert_81 : decode cX9_insert 81 = .ok (.laload, 1) := by decide +kernel
theorem dX9_insert_82 : decode cX9_insert 82 = .ok (.lastore, 1) := by decide +kernel
theorem dX9_insert_83 : decode cX9_insert 83 = .ok (.iinc 6 (-1), 3) := by decide +kernel
theorem dX9_insert_86 : decode cX9_insert 86 = .ok (.goto (-70), 3) := by decide +kernel
theorem dX9_insert_89 : decode cX9_insert 89 = .ok (.aload_n 0, 1) := by decide +kernel
theorem dX9_insert_90 : decode cX9_insert 90 = .ok (.getfield 9, 3) := by decide +kernel
theorem dX9_insert_93 : decode cX9_insert 93 = .ok (.iload 6, 2) := by decide +kernel
theorem dX9_insert_95 : decode cX9_insert 95 = .ok (.iload_n 1, 1) := by decide +kernel
theorem dX9_insert_96 : decode cX9_insert 96 = .ok (.iastore, 1) := by decide +kernel
theorem dX9_insert_97 : decode cX9_insert 97 = .ok (.aload_n 0, 1) := by decide +kernel
theorem dX9_insert_98 : decode cX9_insert 98 = .ok (.getfield 15, 3) := by decide +kernel
theorem dX9_insert_101 : decode cX9_insert 101 = .ok (.iload 6, 2) := by decide +kernel
theorem dX9_insert_103 : decode cX9_insert 103 = .ok (.lload_n 2, 1) := by decide +kernel
theorem dX9_insert_104 : decode cX9_insert 104 = .ok (.lastore, 1) := by decide +kernel
theorem dX9_insert_105 : decode cX9_insert 105 = .ok (.aload_n 0, 1) := by decide +kernel
theorem dX9_insert_106 : decode cX9_insert 106 = .ok (.getfield 19, 3) := by decide +kernel
theorem dX9_insert_109 : decode cX9_insert 109 = .ok (.iload 6, 2) := by decide +kernel
theorem dX9_insert_111 : decode cX9_insert 111 = .ok (.lload 4, 2) := by decide +kernel
theorem dX9_insert_113 : decode cX9_insert 113 = .ok (.lastore, 1) := by decide +kernel
theorem dX9_insert_114 : decode cX9_insert 114 = .ok (.aload_n 0, 1) := by decide +kernel
theorem dX9_insert_115 : decode cX9_insert 115 = .ok (.dup, 1) := by decide +kernel
theorem dX9_insert_116 : decode cX9_insert 116 = .ok (.getfield 22, 3) := by decide +kernel
theorem dX9_insert_119 : decode cX9_insert 119 = .ok (.iconst 1, 1) := by decide +kernel
theorem dX9_insert_120 : decode cX9_insert 120 = .ok (.iadd, 1) := by decide +kernel
theorem dX9_insert_121 : decode cX9_insert 121 = .ok (.putfield 22, 3) := by decide +kernel
theorem dX9_insert_124 : decode cX9_insert 124 = .ok (.return_, 1) := by decide +kernel
theorem dX9_isBetter_0 : decode cX9_isBetter 0 = .ok (.aload_n 0, 1) := by decide +kernel
theorem dX9_isBetter_1 : decode cX9_isBetter 1 = .ok (.getfield 19, 3) := by decide +kernel
theorem dX9_isBetter_4 : decode cX9_isBetter 4 = .ok (.iload_n 1, 1) := by decide +kernel
theorem dX9_isBetter_5 : decode cX9_isBetter 5 = .ok (.laload, 1) := by decide +kernel
theorem dX9_isBetter_6 : decode cX9_isBetter 6 = .ok (.aload_n 0, 1) := by decide +kernel
theorem dX9_isBetter_7 : decode cX9_isBetter 7 = .ok (.getfield 32, 3) := by decide +kernel
theorem dX9_isBetter_10 : decode cX9_isBetter 10 = .ok (.lcmp, 1) := by decide +kernel
theorem dX9_isBetter_11 : decode cX9_isBetter 11 = .ok (.ifCond .ge 7, 3) := by decide +kernel
theorem dX9_isBetter_14 : decode cX9_isBetter 14 = .ok (.iconst 1, 1) := by decide +kernel
theorem dX9_isBetter_15 : decode cX9_isBetter 15 = .ok (.goto 4, 3) := by decide +kernel
theorem dX9_isBetter_18 : decode cX9_isBetter 18 = .ok (.iconst 0, 1) := by decide +kernel
theorem dX9_isBetter_19 : decode cX9_isBetter 19 = .ok (.ireturn, 1) := by decide +kernel
theorem dX9_noneIsBetter_0 : decode cX9_noneIsBetter 0 = .ok (.iconst 0, 1) := by decide +kernel
theorem dX9_noneIsBetter_1 : decode cX9_noneIsBetter 1 = .ok (.istore_n 1, 1) := by decide +kernel
theorem dX9_noneIsBetter_2 : decode cX9_noneIsBetter 2 = .ok (.iload_n 1, 1) := by decide +kernel
theorem dX9_noneIsBetter_3 : decode cX9_noneIsBetter 3 = .ok (.aload_n 0, 1) := by decide +kernel
theorem dX9_noneIsBetter_4 : decode cX9_noneIsBetter 4 = .ok (.getfield 22, 3) := by decide +kernel
theorem dX9_noneIsBetter_7 : decode cX9_noneIsBetter 7 = .ok (.if_icmp .ge 19, 3) := by decide +kernel
theorem dX9_noneIsBetter_10 : decode cX9_noneIsBetter 10 = .ok (.aload_n 0, 1) := by decide +kernel
theorem dX9_noneIsBetter_11 : decode cX9_noneIsBetter 11 = .ok (.iload_n 1, 1) := by decide +kernel
theorem dX9_noneIsBetter_12 : decode cX9_noneIsBetter 12 = .ok (.invokevirtual 72, 3) := by decide +kernel
theorem dX9_noneIsBetter_15 : decode cX9_noneIsBetter 15 = .ok (.ifCond .eq 5, 3) := by decide +kernel
theorem dX9_noneIsBetter_18 : decode cX9_noneIsBetter 18 = .ok (.iconst 0, 1) := by decide +kernel
theorem dX9_noneIsBetter_19 : decode cX9_noneIsBetter 19 = .ok (.ireturn, 1) := by decide +kernel
theorem dX9_noneIsBetter_20 : decode cX9_noneIsBetter 20 = .ok (.iinc 1 1, 3) := by decide +kernel
theorem dX9_noneIsBetter_23 : decode cX9_noneIsBetter 23 = .ok (.goto (-21), 3) := by decide +kernel
theorem dX9_noneIsBetter_26 : decode cX9_noneIsBetter 26 = .ok (.iconst 1, 1) := by decide +kernel
theorem dX9_noneIsBetter_27 : decode cX9_noneIsBetter 27 = .ok (.ireturn, 1) := by decide +kernel
theorem dX9_chooseBetter_0 : decode cX9_chooseBetter 0 = .ok (.iconst (-1), 1) := by decide +kernel
theorem dX9_chooseBetter_1 : decode cX9_chooseBetter 1 = .ok (.istore_n 2, 1) := by decide +kernel
theorem dX9_chooseBetter_2 : decode cX9_chooseBetter 2 = .ok (.aload_n 0, 1) := by decide +kernel
theorem dX9_chooseBetter_3 : decode cX9_chooseBetter 3 = .ok (.getfield 32, 3) := by decide +kernel
theorem dX9_chooseBetter_6 : decode cX9_chooseBetter 6 = .ok (.lstore_n 3, 1) := by decide +kernel
theorem dX9_chooseBetter_7 : decode cX9_chooseBetter 7 = .ok (.aload_n 0, 1) := by decide +kernel
theorem dX9_chooseBetter_8 : decode cX9_chooseBetter 8 = .ok (.iconst 0, 1) := by decide +kernel
theorem dX9_chooseBetter_9 : decode cX9_chooseBetter 9 = .ok (.putfield 76, 3) := by decide +kernel
theorem dX9_chooseBetter_12 : decode cX9_chooseBetter 12 = .ok (.iconst 0, 1) := by decide +kernel
theorem dX9_chooseBetter_13 : decode cX9_chooseBetter 13 = .ok (.istore 5, 2) := by decide +kernel
theorem dX9_chooseBetter_15 : decode cX9_chooseBetter 15 = .ok (.iload 5, 2) := by decide +kernel
theorem dX9_chooseBetter_17 : decode cX9_chooseBetter 17 = .ok (.aload_n 0, 1) := by decide +kernel
theorem dX9_chooseBetter_18 : decode cX9_chooseBetter 18 = .ok (.getfield 22, 3) := by decide +kernel
theorem dX9_chooseBetter_21 : decode cX9_chooseBetter 21 = .ok (.if_icmp .ge 54, 3) := by decide +kernel
theorem dX9_chooseBetter_24 : decode cX9_chooseBetter 24 = .ok (.aload_n 0, 1) := by decide +kernel
theorem dX9_chooseBetter_25 : decode cX9_chooseBetter 25 = .ok (.dup, 1) := by decide +kernel
theorem dX9_chooseBetter_26 : decode cX9_chooseBetter 26 = .ok (.getfield 76, 3) := by decide +kernel
theorem dX9_chooseBetter_29 : decode cX9_chooseBetter 29 = .ok (.iconst 1, 1) := by decide +kernel
theorem dX9_chooseBetter_30 : decode cX9_chooseBetter 30 = .ok (.iadd, 1) := by decide +kernel
theorem dX9_chooseBetter_31 : decode cX9_chooseBetter 31 = .ok (.putfield 76, 3) := by decide +kernel
theorem dX9_chooseBetter_34 : decode cX9_chooseBetter 34 = .ok (.aload_n 0, 1) := by decide +kernel
theorem dX9_chooseBetter_35 : decode cX9_chooseBetter 35 = .ok (.getfield 19, 3) := by decide +kernel
theorem dX9_chooseBetter_38 : decode cX9_chooseBetter 38 = .ok (.iload 5, 2) := by decide +kernel
theorem dX9_chooseBetter_40 : decode cX9_chooseBetter 40 = .ok (.laload, 1) := by decide +kernel
theorem dX9_chooseBetter_41 : decode cX9_chooseBetter 41 = .ok (.lload_n 3, 1) := by decide +kernel
theorem dX9_chooseBetter_42 : decode cX9_chooseBetter 42 = .ok (.lcmp, 1) := by decide +kernel
theorem dX9_chooseBetter_43 : decode cX9_chooseBetter 43 = .ok (.ifCond .ge 26, 3) := by decide +kernel
theorem dX9_chooseBetter_46 : decode cX9_chooseBetter 46 = .ok (.aload_n 0, 1) := by decide +kernel
theorem dX9_chooseBetter_47 : decode cX9_chooseBetter 47 = .ok (.getfield 9, 3) := by decide +kernel
theorem dX9_chooseBetter_50 : decode cX9_chooseBetter 50 = .ok (.iload 5, 2) := by decide +kernel
theorem dX9_chooseBetter_52 : decode cX9_chooseBetter 52 = .ok (.iaload, 1) := by decide +kernel
theorem dX9_chooseBetter_53 : decode cX9_chooseBetter 53 = .ok (.istore_n 2, 1) := by decide +kernel
theorem dX9_chooseBetter_54 : decode cX9_chooseBetter 54 = .ok (.aload_n 0, 1) := by decide +kernel
theorem dX9_chooseBetter_55 : decode cX9_chooseBetter 55 = .ok (.getfield 19, 3) := by decide +kernel
theorem dX9_chooseBetter_58 : decode cX9_chooseBetter 58 = .ok (.iload 5, 2) := by decide +kernel
theorem dX9_chooseBetter_60 : decode cX9_chooseBetter 60 = .ok (.laload, 1) := by decide +kernel
theorem dX9_chooseBetter_61 : decode cX9_chooseBetter 61 = .ok (.lstore_n 3, 1) := by decide +kernel
theorem dX9_chooseBetter_62 : decode cX9_chooseBetter 62 = .ok (.iload_n 1, 1) := by decide +kernel
theorem dX9_chooseBetter_63 : decode cX9_chooseBetter 63 = .ok (.ifCond .ne 6, 3) := by decide +kernel
theorem dX9_chooseBetter_66 : decode cX9_chooseBetter 66 = .ok (.goto 9, 3) := by decide +kernel
theorem dX9_chooseBetter_69 : decode cX9_chooseBetter 69 = .ok (.iinc 5 1, 3) := by decide +kernel
theorem dX9_chooseBetter_72 : decode cX9_chooseBetter 72 = .ok (.goto (-57), 3) := by decide +kernel
theorem dX9_chooseBetter_75 : decode cX9_chooseBetter 75 = .ok (.iload_n 2, 1) := by decide +kernel
theorem dX9_chooseBetter_76 : decode cX9_chooseBetter 76 = .ok (.ireturn, 1) := by decide +kernel
theorem dX10_init_0 : decode cX10_init 0 = .ok (.aload_n 0, 1) := by decide +kernel
theorem dX10_init_1 : decode cX10_init 1 = .ok (.invokespecial 1, 3) := by decide +kernel
theorem dX10_init_4 : decode cX10_init 4 = .ok (.aload_n 0, 1) := by decide +kernel
theorem dX10_init_5 : decode cX10_init 5 = .ok (.new 7, 3) := by decide +kernel
theorem dX10_init_8 : decode cX10_init 8 = .ok (.dup, 1) := by decide +kernel
theorem dX10_init_9 : decode cX10_init 9 = .ok (.invokespecial 9, 3) := by decide +kernel
theorem dX10_init_12 : decode cX10_init 12 = .ok (.putfield 10, 3) := by decide +kernel
theorem dX10_init_15 : decode cX10_init 15 = .ok (.aload_n 0, 1) := by decide +kernel
theorem dX10_init_16 : decode cX10_init 16 = .ok (.getfield 10, 3) := by decide +kernel
theorem dX10_init_19 : decode cX10_init 19 = .ok (.iconst 2, 1) := by decide +kernel
theorem dX10_init_20 : decode cX10_init 20 = .ok (.invokevirtual 16, 3) := by decide +kernel
theorem dX10_init_23 : decode cX10_init 23 = .ok (.aload_n 0, 1) := by decide +kernel
theorem dX10_init_24 : decode cX10_init 24 = .ok (.new 20, 3) := by decide +kernel
theorem dX10_init_27 : decode cX10_init 27 = .ok (.dup, 1) := by decide +kernel
theorem dX10_init_28 : decode cX10_init 28 = .ok (.invokespecial 22, 3) := by decide +kernel
theorem dX10_init_31 : decode cX10_init 31 = .ok (.putfield 23, 3) := by decide +kernel
theorem dX10_init_34 : decode cX10_init 34 = .ok (.aload_n 0, 1) := by decide +kernel
theorem dX10_init_35 : decode cX10_init 35 = .ok (.new 7, 3) := by decide +kernel
theorem dX10_init_38 : decode cX10_init 38 = .ok (.dup, 1) := by decide +kernel
theorem dX10_init_39 : decode cX10_init 39 = .ok (.invokespecial 9, 3) := by decide +kernel
theorem dX10_init_42 : decode cX10_init 42 = .ok (.putfield 27, 3) := by decide +kernel
theorem dX10_init_45 : decode cX10_init 45 = .ok (.aload_n 0, 1) := by decide +kernel
theorem dX10_init_46 : decode cX10_init 46 = .ok (.iconst 0, 1) := by decide +kernel
theorem dX10_init_47 : decode cX10_init 47 = .ok (.putfield 30, 3) := by decide +kernel
theorem dX10_init_50 : decode cX10_init 50 = .ok (.aload_n 0, 1) := by decide +kernel
theorem dX10_init_51 : decode cX10_init 51 = .ok (.new 34, 3) := by decide +kernel
theorem dX10_init_54 : decode cX10_init 54 = .ok (.dup, 1) := by decide +kernel
theorem dX10_init_55 : decode cX10_init 55 = .ok (.invokespecial 36, 3) := by decide +kernel
theorem dX10_init_58 : decode cX10_init 58 = .ok (.putfield 37, 3) := by decide +kernel
theorem dX10_init_61 : decode cX10_init 61 = .ok (.aload_n 0, 1) := by decide +kernel
theorem dX10_init_62 : decode cX10_init 62 = .ok (.new 41, 3) := by decide +kernel
theorem dX10_init_65 : decode cX10_init 65 = .ok (.dup, 1) := by decide +kernel
theorem dX10_init_66 : decode cX10_init 66 = .ok (.invokespecial 43, 3) := by decide +kernel
theorem dX10_init_69 : decode cX10_init 69 = .ok (.putfield 44, 3) := by decide +kernel
theorem dX10_init_72 : decode cX10_init 72 = .ok (.aload_n 0, 1) := by decide +kernel
theorem dX10_init_73 : decode cX10_init 73 = .ok (.new 48, 3) := by decide +kernel
theorem dX10_init_76 : decode cX10_init 76 = .ok (.dup, 1) := by decide +kernel
theorem dX10_init_77 : decode cX10_init 77 = .ok (.invokespecial 50, 3) := by decide +kernel
theorem dX10_init_80 : decode cX10_init 80 = .ok (.putfield 51, 3) := by decide +kernel
theorem dX10_init_83 : decode cX10_init 83 = .ok (.aload_n 0, 1) := by decide +kernel
theorem dX10_init_84 : decode cX10_init 84 = .ok (.new 55, 3) := by decide +kernel
theorem dX10_init_87 : decode cX10_init 87 = .ok (.dup, 1) := by decide +kernel
theorem dX10_init_88 : decode cX10_init 88 = .ok (.invokespecial 57, 3) := by decide +kernel
theorem dX10_init_91 : decode cX10_init 91 = .ok (.putfield 58, 3) := by decide +kernel
theorem dX10_init_94 : decode cX10_init 94 = .ok (.return_, 1) := by decide +kernel
theorem dX10_variables_0 : decode cX10_variables 0 = .ok (.iload_n 1, 1) := by decide +kernel
theorem dX10_variables_1 : decode cX10_variables 1 = .ok (.iconst 1, 1) := by decide +kernel
theorem dX10_variables_2 : decode cX10_variables 2 = .ok (.iconst 3, 1) := by decide +kernel
theorem dX10_variables_3 : decode cX10_variables 3 = .ok (.invokestatic 62, 3) := by decide +kernel
theorem dX10_variables_6 : decode cX10_variables 6 = .ok (.ifCond .ne 6, 3) := by decide +kernel
theorem dX10_variables_9 : decode cX10_variables 9 = .ok (.ldc 66, 2) := by decide +kernel
theorem dX10_variables_11 : decode cX10_variables 11 = .ok (.ireturn, 1) := by decide +kernel
theorem dX10_variables_12 : decode cX10_variables 12 = .ok (.aload_n 0, 1) := by decide +kernel
theorem dX10_variables_13 : decode cX10_variables 13 = .ok (.getfield 10, 3) := by decide +kernel
theorem dX10_variables_16 : decode cX10_variables 16 = .ok (.getfield 67, 3) := by decide +kernel
theorem dX10_variables_19 : decode cX10_variables 19 = .ok (.istore_n 2, 1) := by decide +kernel
theorem dX10_variables_20 : decode cX10_variables 20 = .ok (.aload_n 0, 1) := by decide +kernel
theorem dX10_variables_21 : decode cX10_variables 21 = .ok (.getfield 23, 3) := by decide +kernel
theorem dX10_variables_24 : decode cX10_variables 24 = .ok (.aload_n 0, 1) := by decide +kernel
theorem dX10_variables_25 : decode cX10_variables 25 = .ok (.getfield 10, 3) := by decide +kernel
theorem dX10_variables_28 : decode cX10_variables 28 = .ok (.invokevirtual 71, 3) := by decide +kernel
theorem dX10_variables_31 : decode cX10_variables 31 = .ok (.aload_n 0, 1) := by decide +kernel
theorem dX10_variables_32 : decode cX10_variables 32 = .ok (.getfield 10, 3) := by decide +kernel
theorem dX10_variables_35 : decode cX10_variables 35 = .ok (.iload_n 1, 1) := by decide +kernel
theorem dX10_variables_36 : decode cX10_variables 36 = .ok (.invokevirtual 16, 3) := by decide +kernel
theorem dX10_variables_39 : decode cX10_variables 39 = .ok (.iload_n 2, 1) := by decide +kernel
theorem dX10_variables_40 : decode cX10_variables 40 = .ok (.ireturn, 1) := by decide +kernel
theorem dX10_term_0 : decode cX10_term 0 = .ok (.iload_n 1, 1) := by decide +kernel
theorem dX10_term_1 : decode cX10_term 1 = .ok (.bipush (-99), 2) := by decide +kernel
theorem dX10_term_3 : decode cX10_term 3 = .ok (.bipush 99, 2) := by decide +kernel
theorem dX10_term_5 : decode cX10_term 5 = .ok (.invokestatic 62, 3) := by decide +kernel
theorem dX10_term_8 : decode cX10_term 8 = .ok (.ifCond .eq 7, 3) := by decide +kernel
theorem dX10_term_11 : decode cX10_term 11 = .ok (.iload_n 1, 1) := by decide +kernel
theorem dX10_term_12 : decode cX10_term 12 = .ok (.ifCond .ne 6, 3) := by decide +kernel
theorem dX10_term_15 : decode cX10_term 15 = .ok (.ldc 66, 2) := by decide +kernel
theorem dX10_term_17 : decode cX10_term 17 = .ok (.ireturn, 1) := by decide +kernel
theorem dX10_term_18 : decode cX10_term 18 = .ok (.aload_n 0, 1) := by decide +kernel
theorem dX10_term_19 : decode cX10_term 19 = .ok (.getfield 10, 3) := by decide +kernel
theorem dX10_term_22 : decode cX10_term 22 = .ok (.iload_n 2, 1) := by decide +kernel
theorem dX10_term_23 : decode cX10_term 23 = .ok (.iload_n 3, 1) := by decide +kernel
theorem dX10_term_24 : decode cX10_term 24 = .ok (.iload 4, 2) := by decide +kernel
theorem dX10_term_26 : decode cX10_term 26 = .ok (.iconst 0, 1) := by decide +kernel
theorem dX10_term_27 : decode cX10_term 27 = .ok (.iconst 4, 1) := by decide +kernel
theorem dX10_term_28 : decode cX10_term 28 = .ok (.invokevirtual 75, 3) := by decide +kernel
theorem dX10_term_31 : decode cX10_term 31 = .ok (.ifCond .eq 13, 3) := by decide +kernel
theorem dX10_term_34 : decode cX10_term 34 = .ok (.iload_n 2, 1) := by decide +kernel
theorem dX10_term_35 : decode cX10_term 35 = .ok (.iload_n 3, 1) := by decide +kernel
theorem dX10_term_36 : decode cX10_term 36 = .ok (.iadd, 1) := by decide +kernel
theorem dX10_term_37 : decode cX10_term 37 = .ok (.iload 4, 2) := by decide +kernel
theorem dX10_term_39 : decode cX10_term 39 = .ok (.iadd, 1) := by decide +kernel
theorem dX10_term_40 : decode cX10_term 40 = .ok (.iconst 4, 1) := by decide +kernel
theorem dX10_term_41 : decode cX10_term 41 = .ok (.if_icmp .le 6, 3) := by decide +kernel
theorem dX10_term_44 : decode cX10_term 44 = .ok (.ldc 66, 2) := by decide +kernel
theorem dX10_term_46 : decode cX10_term 46 = .ok (.ireturn, 1) := by decide +kernel
theorem dX10_term_47 : decode cX10_term 47 = .ok (.aload_n 0, 1) := by decide +kernel
theorem dX10_term_48 : decode cX10_term 48 = .ok (.getfield 10, 3) := by decide +kernel
theorem dX10_term_51 : decode cX10_term 51 = .ok (.getfield 79, 3) := by decide +kernel
theorem dX10_term_54 : decode cX10_term 54 = .ok (.getfield 83, 3) := by decide +kernel
theorem dX10_term_57 : decode cX10_term 57 = .ok (.bipush 10, 2) := by decide +kernel
theorem dX10_term_59 : decode cX10_term 59 = .ok (.if_icmp .lt 6, 3) := by decide +kernel
theorem dX10_term_62 : decode cX10_term 62 = .ok (.ldc 88, 2) := by decide +kernel
theorem dX10_term_64 : decode cX10_term 64 = .ok (.ireturn, 1) := by decide +kernel
theorem dX10_term_65 : decode cX10_term 65 = .ok (.aload_n 0, 1) := by decide +kernel
theorem dX10_term_66 : decode cX10_term 66 = .ok (.getfield 23, 3) := by decide +kernel
theorem dX10_term_69 : decode cX10_term 69 = .ok (.aload_n 0, 1) := by decide +kernel
theorem dX10_term_70 : decode cX10_term 70 = .ok (.getfield 10, 3) := by decide +kernel
theorem dX10_term_73 : decode cX10_term 73 = .ok (.invokevirtual 71, 3) := by decide +kernel
theorem dX10_term_76 : decode cX10_term 76 = .ok (.aload_n 0, 1) := by decide +kernel
theorem dX10_term_77 : decode cX10_term 77 = .ok (.getfield 10, 3) := by decide +kernel
theorem dX10_term_80 : decode cX10_term 80 = .ok (.getfield 79, 3) := by decide +kernel
theorem dX10_term_83 : decode cX10_term 83 = .ok (.iload_n 1, 1) := by decide +kernel
theorem dX10_term_84 : decode cX10_term 84 = .ok (.iload_n 2, 1) := by decide +kernel
theorem dX10_term_85 : decode cX10_term 85 = .ok (.iload_n 3, 1) := by decide +kernel
theorem dX10_term_86 : decode cX10_term 86 = .ok (.iload 4, 2) := by decide +kernel
theorem dX10_term_88 : decode cX10_term 88 = .ok (.invokevirtual 89, 3) := by decide +kernel
theorem dX10_term_91 : decode cX10_term 91 = .ok (.aload_n 0, 1) := by decide +kernel
theorem dX10_term_92 : decode cX10_term 92 = .ok (.getfield 10, 3) := by decide +kernel
theorem dX10_term_95 : decode cX10_term 95 = .ok (.getfield 79, 3) := by decide +kernel
theorem dX10_term_98 : decode cX10_term 98 = .ok (.getfield 83, 3) := by decide +kernel
theorem dX10_term_101 : decode cX10_term 101 = .ok (.ireturn, 1) := by decide +kernel
theorem dX10_dropTerm_0 : decode cX10_dropTerm 0 = .ok (.iload_n 1, 1) := by decide +kernel
theorem dX10_dropTerm_1 : decode cX10_dropTerm 1 = .ok (.ifCond .ge 6, 3) := by decide +kernel
theorem dX10_dropTerm_4 : decode cX10_dropTerm 4 = .ok (.ldc 66, 2) := by decide +kernel
theorem dX10_dropTerm_6 : decode cX10_dropTerm 6 = .ok (.ireturn, 1) := by decide +kernel
theorem dX10_dropTerm_7 : decode cX10_dropTerm 7 = .ok (.iload_n 1, 1) := by decide +kernel
theorem dX10_dropTerm_8 : decode cX10_dropTerm 8 = .ok (.aload_n 0, 1) := by decide +kernel
theorem dX10_dropTerm_9 : decode cX10_dropTerm 9 = .ok (.getfield 10, 3) := by decide +kernel
theorem dX10_dropTerm_12 : decode cX10_dropTerm 12 = .ok (.getfield 79, 3) := by decide +kernel
theorem dX10_dropTerm_15 : decode cX10_dropTerm 15 = .ok (.getfield 83, 3) := by decide +kernel
theorem dX10_dropTerm_18 : decode cX10_dropTerm 18 = .ok (.if_icmp .lt 6, 3) := by decide +kernel
theorem dX10_dropTerm_21 : decode cX10_dropTerm 21 = .ok (.ldc 93, 2) := by decide +kernel
theorem dX10_dropTerm_23 : decode cX10_dropTerm 23 = .ok (.ireturn, 1) := by decide +kernel
theorem dX10_dropTerm_24 : decode cX10_dropTerm 24 = .ok (.aload_n 0, 1) := by decide +kernel
theorem dX10_dropTerm_25 : decode cX10_dropTerm 25 = .ok (.getfield 10, 3) := by decide +kernel
theorem dX10_dropTerm_28 : decode cX10_dropTerm 28 = .ok (.getfield 79, 3) := by decide +kernel
theorem dX10_dropTerm_31 : decode cX10_dropTerm 31 = .ok (.getfield 94, 3) := by decide +kernel
theorem dX10_dropTerm_34 : decode cX10_dropTerm 34 = .ok (.iload_n 1, 1) := by decide +kernel
theorem dX10_dropTerm_35 : decode cX10_dropTerm 35 = .ok (.iaload, 1) := by decide +kernel
theorem dX10_dropTerm_36 : decode cX10_dropTerm 36 = .ok (.istore_n 2, 1) := by decide +kernel
theorem dX10_dropTerm_37 : decode cX10_dropTerm 37 = .ok (.aload_n 0, 1) := by decide +kernel
theorem dX10_dropTerm_38 : decode cX10_dropTerm 38 = .ok (.getfield 23, 3) := by decide +kernel
theorem dX10_dropTerm_41 : decode cX10_dropTerm 41 = .ok (.aload_n 0, 1) := by decide +kernel
theorem dX10_dropTerm_42 : decode cX10_dropTerm 42 = .ok (.getfield 10, 3) := by decide +kernel
theorem dX10_dropTerm_45 : decode cX10_dropTerm 45 = .ok (.invokevirtual 71, 3) := by decide +kernel
theorem dX10_dropTerm_48 : decode cX10_dropTerm 48 = .ok (.aload_n 0, 1) := by decide +kernel
theorem dX10_dropTerm_49 : decode cX10_dropTerm 49 = .ok (.getfield 10, 3) := by decide +kernel
theorem dX10_dropTerm_52 : decode cX10_dropTerm 52 = .ok (.getfield 79, 3) := by decide +kernel
theorem dX10_dropTerm_55 : decode cX10_dropTerm 55 = .ok (.iload_n 1, 1) := by decide +kernel
theorem dX10_dropTerm_56 : decode cX10_dropTerm 56 = .ok (.invokevirtual 98, 3) := by decide +kernel
theorem dX10_dropTerm_59 : decode cX10_dropTerm 59 = .ok (.iload_n 2, 1) := by decide +kernel
theorem dX10_dropTerm_60 : decode cX10_dropTerm 60 = .ok (.ireturn, 1) := by decide +kernel
theorem dX10_bound_0 : decode cX10_bound 0 = .ok (.aload_n 0, 1) := by decide +kernel
theorem dX10_bound_1 : decode cX10_bound 1 = .ok (.getfield 10, 3) := by decide +kernel
theorem dX10_bound_4 : decode cX10_bound 4 = .ok (.iload_n 1, 1) := by decide +kernel
theorem dX10_bound_5 : decode cX10_bound 5 = .ok (.invokevirtual 101, 3) := by decide +kernel
theorem dX10_bound_8 : decode cX10_bound 8 = .ok (.ifCond .eq 24, 3) := by decide +kernel
theorem dX10_bound_11 : decode cX10_bound 11 = .ok (.iload_n 2, 1) := by decide +kernel
theorem dX10_bound_12 : decode cX10_bound 12 = .ok (.bipush (-50), 2) := by decide +kernel
theorem dX10_bound_14 : decode cX10_bound 14 = .ok (.bipush 50, 2) := by decide +kernel
theorem dX10_bound_16 : decode cX10_bound 16 = .ok (.invokestatic 62, 3) := by decide +kernel
theorem dX10_bound_19 : decode cX10_bound 19 = .ok (.ifCond .eq 13, 3) := by decide +kernel
theorem dX10_bound_22 : decode cX10_bound 22 = .ok (.iload_n 3, 1) := by decide +kernel
theorem dX10_bound_23 : decode cX10_bound 23 = .ok (.iload_n 2, 1) := by decide +kernel
theorem dX10_bound_24 : decode cX10_bound 24 = .ok (.bipush 50, 2) := by decide +kernel
theorem dX10_bound_26 : decode cX10_bound 26 = .ok (.invokestatic 62, 3) := by decide +kernel
theorem dX10_bound_29 : decode cX10_bound 29 = .ok (.ifCond .ne 6, 3) := by decide +kernel
theorem dX10_bound_32 : decode cX10_bound 32 = .ok (.ldc 66, 2) := by decide +kernel
theorem dX10_bound_34 : decode cX10_bound 34 = .ok (.ireturn, 1) := by decide +kernel
theorem dX10_bound_35 : decode cX10_bound 35 = .ok (.aload_n 0, 1) := by decide +kernel
theorem dX10_bound_36 : decode cX10_bound 36 = .ok (.getfield 23, 3) := by decide +kernel
theorem dX10_bound_39 : decode cX10_bound 39 = .ok (.aload_n 0, 1) := by decide +kernel
theorem dX10_bound_40 : decode cX10_bound 40 = .ok (.getfield 10, 3) := by decide +kernel
theorem dX10_bound_43 : decode cX10_bound 43 = .ok (.invokevirtual 71, 3) := by decide +kernel
theorem dX10_bound_46 : decode cX10_bound 46 = .ok (.aload_n 0, 1) := by decide +kernel
theorem dX10_bound_47 : decode cX10_bound 47 = .ok (.getfield 10, 3) := by decide +kernel
theorem dX10_bound_50 : decode cX10_bound 50 = .ok (.getfield 105, 3) := by decide +kernel
theorem dX10_bound_53 : decode cX10_bound 53 = .ok (.getfield 109, 3) := by decide +kernel
theorem dX10_bound_56 : decode cX10_bound 56 = .ok (.iload_n 1, 1) := by decide +kernel
theorem dX10_bound_57 : decode cX10_bound 57 = .ok (.iload_n 2, 1) := by decide +kernel
theorem dX10_bound_58 : decode cX10_bound 58 = .ok (.iastore, 1) := by decide +kernel
theorem dX10_bound_59 : decode cX10_bound 59 = .ok (.aload_n 0, 1) := by decide +kernel
theorem dX10_bound_60 : decode cX10_bound 60 = .ok (.getfield 10, 3) := by decide +kernel
theorem dX10_bound_63 : decode cX10_bound 63 = .ok (.getfield 105, 3) := by decide +kernel
theorem dX10_bound_66 : decode cX10_bound 66 = .ok (.getfield 114, 3) := by decide +kernel
theorem dX10_bound_69 : decode cX10_bound 69 = .ok (.iload_n 1, 1) := by decide +kernel
theorem dX10_bound_70 : decode cX10_bound 70 = .ok (.iload_n 3, 1) := by decide +kernel
theorem dX10_bound_71 : decode cX10_bound 71 = .ok (.iastore, 1) := by decide +kernel
theorem dX10_bound_72 : decode cX10_bound 72 = .ok (.aload_n 0, 1) := by decide +kernel
theorem dX10_bound_73 : decode cX10_bound 73 = .ok (.getfield 10, 3) := by decide +kernel
theorem dX10_bound_76 : decode cX10_bound 76 = .ok (.invokevirtual 117, 3) := by decide +kernel
theorem dX10_bound_79 : decode cX10_bound 79 = .ok (.invokestatic 121, 3) := by decide +kernel
theorem dX10_bound_82 : decode cX10_bound 82 = .ok (.ireturn, 1) := by decide +kernel
theorem dX10_direction_0 : decode cX10_direction 0 = .ok (.aload_n 0, 1) := by decide +kernel
theorem dX10_direction_1 : decode cX10_direction 1 = .ok (.getfield 10, 3) := by decide +kernel
theorem dX10_direction_4 : decode cX10_direction 4 = .ok (.iload_n 1, 1) := by decide +kernel
theorem dX10_direction_5 : decode cX10_direction 5 = .ok (.iload_n 2, 1) := by decide +kernel
theorem dX10_direction_6 : decode cX10_direction 6 = .ok (.iload_n 3, 1) := by decide +kernel
theorem dX10_direction_7 : decode cX10_direction 7 = .ok (.bipush (-3), 2) := by decide +kernel
theorem dX10_direction_9 : decode cX10_direction 9 = .ok (.iconst 3, 1) := by decide +kernel
theorem dX10_direction_10 : decode cX10_direction 10 = .ok (.invokevirtual 75, 3) := by decide +kernel
theorem dX10_direction_13 : decode cX10_direction 13 = .ok (.ifCond .eq 15, 3) := by decide +kernel
theorem dX10_direction_16 : decode cX10_direction 16 = .ok (.iload_n 1, 1) := by decide +kernel
theorem dX10_direction_17 : decode cX10_direction 17 = .ok (.ifCond .ne 14, 3) := by decide +kernel
theorem dX10_direction_20 : decode cX10_direction 20 = .ok (.iload_n 2, 1) := by decide +kernel
theorem dX10_direction_21 : decode cX10_direction 21 = .ok (.ifCond .ne 10, 3) := by decide +kernel
theorem dX10_direction_24 : decode cX10_direction 24 = .ok (.iload_n 3, 1) := by decide +kernel
theorem dX10_direction_25 : decode cX10_direction 25 = .ok (.ifCond .ne 6, 3) := by decide +kernel
theorem dX10_direction_28 : decode cX10_direction 28 = .ok (.ldc 66, 2) := by decide +kernel
theorem dX10_direction_30 : decode cX10_direction 30 = .ok (.ireturn, 1) := by decide +kernel
theorem dX10_direction_31 : decode cX10_direction 31 = .ok (.aload_n 0, 1) := by decide +kernel
theorem dX10_direction_32 : decode cX10_direction 32 = .ok (.getfield 10, 3) := by decide +kernel
theorem dX10_direction_35 : decode cX10_direction 35 = .ok (.getfield 125, 3) := by decide +kernel
theorem dX10_direction_38 : decode cX10_direction 38 = .ok (.iload_n 1, 1) := by decide +kernel
theorem dX10_direction_39 : decode cX10_direction 39 = .ok (.iload_n 2, 1) := by decide +kernel
theorem dX10_direction_40 : decode cX10_direction 40 = .ok (.iload_n 3, 1) := by decide +kernel
theorem dX10_direction_41 : decode cX10_direction 41 = .ok (.invokevirtual 129, 3) := by decide +kernel
theorem dX10_direction_44 : decode cX10_direction 44 = .ok (.ifCond .eq 6, 3) := by decide +kernel
theorem dX10_direction_47 : decode cX10_direction 47 = .ok (.ldc 93, 2) := by decide +kernel
theorem dX10_direction_49 : decode cX10_direction 49 = .ok (.ireturn, 1) := by decide +kernel
theorem dX10_direction_50 : decode cX10_direction 50 = .ok (.aload_n 0, 1) := by decide +kernel
theorem dX10_direction_51 : decode cX10_direction 51 = .ok (.getfield 10, 3) := by decide +kernel
theorem dX10_direction_54 : decode cX10_direction 54 = .ok (.getfield 125, 3) := by decide +kernel
theorem dX10_direction_57 : decode cX10_direction 57 = .ok (.getfield 134, 3) := by decide +kernel
theorem dX10_direction_60 : decode cX10_direction 60 = .ok (.bipush 8, 2) := by decide +kernel
theorem dX10_direction_62 : decode cX10_direction 62 = .ok (.if_icmp .lt 6, 3) := by decide +kernel
theorem dX10_direction_65 : decode cX10_direction 65 = .ok (.ldc 88, 2) := by decide +kernel
theorem dX10_direction_67 : decode cX10_direction 67 = .ok (.ireturn, 1) := by decide +kernel
theorem dX10_direction_68 : decode cX10_direction 68 = .ok (.aload_n 0, 1) := by decide +kernel
theorem dX10_direction_69 : decode cX10_direction 69 = .ok (.getfield 23, 3) := by decide +kernel
theorem dX10_direction_72 : decode cX10_direction 72 = .ok (.aload_n 0, 1) := by decide +kernel
theorem dX10_direction_73 : decode cX10_direction 73 = .ok (.getfield 10, 3) := by decide +kernel
theorem dX10_direction_76 : decode cX10_direction 76 = .ok (.invokevirtual 71, 3) := by decide +kernel
theorem dX10_direction_79 : decode cX10_direction 79 = .ok (.aload_n 0, 1) := by decide +kernel
theorem dX10_direction_80 : decode cX10_direction 80 = .ok (.getfield 10, 3) := by decide +kernel
theorem dX10_direction_83 : decode cX10_direction 83 = .ok (.getfield 125, 3) := by decide +kernel
theorem dX10_direction_86 : decode cX10_direction 86 = .ok (.iload_n 1, 1) := by decide +kernel
theorem dX10_direction_87 : decode cX10_direction 87 = .ok (.iload_n 2, 1) := by decide +kernel
theorem dX10_direction_88 : decode cX10_direction 88 = .ok (.iload_n 3, 1) := by decide +kernel
theorem dX10_direction_89 : decode cX10_direction 89 = .ok (.invokevirtual 135, 3) := by decide +kernel
theorem dX10_direction_92 : decode cX10_direction 92 = .ok (.aload_n 0, 1) := by decide +kernel
theorem dX10_direction_93 : decode cX10_direction 93 = .ok (.getfield 10, 3) := by decide +kernel
theorem dX10_direction_96 : decode cX10_direction 96 = .ok (.getfield 125, 3) := by decide +kernel
theorem dX10_direction_99 : decode cX10_direction 99 = .ok (.getfield 134, 3) := by decide +kernel
theorem dX10_direction_102 : decode cX10_direction 102 = .ok (.iconst 1, 1) := by decide +kernel
theorem dX10_direction_103 : decode cX10_direction 103 = .ok (.isub, 1) := by decide +kernel
theorem dX10_direction_104 : decode cX10_direction 104 = .ok (.ireturn, 1) := by decide +kernel
theorem dX10_dropDirection_0 : decode cX10_dropDirection 0 = .ok (.iload_n 1, 1) := by decide +kernel
theorem dX10_dropDirection_1 : decode cX10_dropDirection 1 = .ok (.ifCond .ge 6, 3) := by decide +kernel
theorem dX10_dropDirection_4 : decode cX10_dropDirection 4 = .ok (.ldc 66, 2) := by decide +kernel
theorem dX10_dropDirection_6 : decode cX10_dropDirection 6 = .ok (.ireturn, 1) := by decide +kernel
theorem dX10_dropDirection_7 : decode cX10_dropDirection 7 = .ok (.iload_n 1, 1) := by decide +kernel
theorem dX10_dropDirection_8 : decode cX10_dropDirection 8 = .ok (.aload_n 0, 1) := by decide +kernel
theorem dX10_dropDirection_9 : decode cX10_dropDirection 9 = .ok (.getfield 10, 3) := by decide +kernel
theorem dX10_dropDirection_12 : decode cX10_dropDirection 12 = .ok (.getfield 125, 3) := by decide +kernel
theorem dX10_dropDirection_15 : decode cX10_dropDirection 15 = .ok (.getfield 134, 3) := by decide +kernel
theorem dX10_dropDirection_18 : decode cX10_dropDirection 18 = .ok (.if_icmp .lt 6, 3) := by decide +kernel
theorem dX10_dropDirection_21 : decode cX10_dropDirection 21 = .ok (.ldc 93, 2) := by decide +kernel
theorem dX10_dropDirection_23 : decode cX10_dropDirection 23 = .ok (.ireturn, 1) := by decide +kernel
theorem dX10_dropDirection_24 : decode cX10_dropDirection 24 = .ok (.aload_n 0, 1) := by decide +kernel
theorem dX10_dropDirection_25 : decode cX10_dropDirection 25 = .ok (.getfield 23, 3) := by decide +kernel
theorem dX10_dropDirection_28 : decode cX10_dropDirection 28 = .ok (.aload_n 0, 1) := by decide +kernel
theorem dX10_dropDirection_29 : decode cX10_dropDirection 29 = .ok (.getfield 10, 3) := by decide +kernel
theorem dX10_dropDirection_32 : decode cX10_dropDirection 32 = .ok (.invokevirtual 71, 3) := by decide +kernel
theorem dX10_dropDirection_35 : decode cX10_dropDirection 35 = .ok (.aload_n 0, 1) := by decide +kernel
theorem dX10_dropDirection_36 : decode cX10_dropDirection 36 = .ok (.getfield 10, 3) := by decide +kernel
theorem dX10_dropDirection_39 : decode cX10_dropDirection 39 = .ok (.getfield 125, 3) := by decide +kernel
theorem dX10_dropDirection_42 : decode cX10_dropDirection 42 = .ok (.iload_n 1, 1) := by decide +kernel
theorem dX10_dropDirection_43 : decode cX10_dropDirection 43 = .ok (.invokevirtual 138, 3) := by decide +kernel
theorem dX10_dropDirection_46 : decode cX10_dropDirection 46 = .ok (.aload_n 0, 1) := by decide +kernel
theorem dX10_dropDirection_47 : decode cX10_dropDirection 47 = .ok (.getfield 10, 3) := by decide +kernel
theorem dX10_dropDirection_50 : decode cX10_dropDirection 50 = .ok (.getfield 139, 3) := by decide +kernel
theorem dX10_dropDirection_53 : decode cX10_dropDirection 53 = .ok (.iload_n 1, 1) := by decide +kernel
theorem dX10_dropDirection_54 : decode cX10_dropDirection 54 = .ok (.invokevirtual 143, 3) := by decide +kernel
theorem dX10_dropDirection_57 : decode cX10_dropDirection 57 = .ok (.aload_n 0, 1) := by decide +kernel
theorem dX10_dropDirection_58 : decode cX10_dropDirection 58 = .ok (.getfield 10, 3) := by decide +kernel
theorem dX10_dropDirection_61 : decode cX10_dropDirection 61 = .ok (.getfield 125, 3) := by decide +kernel
theorem dX10_dropDirection_64 : decode cX10_dropDirection 64 = .ok (.getfield 134, 3) := by decide +kernel
theorem dX10_dropDirection_67 : decode cX10_dropDirection 67 = .ok (.ireturn, 1) := by decide +kernel
theorem dX10_start_0 : decode cX10_start 0 = .ok (.aload_n 0, 1) := by decide +kernel
theorem dX10_start_1 : decode cX10_start 1 = .ok (.getfield 10, 3) := by decide +kernel
theorem dX10_start_4 : decode cX10_start 4 = .ok (.iload_n 1, 1) := by decide +kernel
theorem dX10_start_5 : decode cX10_start 5 = .ok (.iload_n 2, 1) := by decide +kernel
theorem dX10_start_6 : decode cX10_start 6 = .ok (.iload_n 3, 1) := by decide +kernel
theorem dX10_start_7 : decode cX10_start 7 = .ok (.bipush (-50), 2) := by decide +kernel
theorem dX10_start_9 : decode cX10_start 9 = .ok (.bipush 50, 2) := by decide +kernel
theorem dX10_start_11 : decode cX10_start 11 = .ok (.invokevirtual 75, 3) := by decide +kernel
theorem dX10_start_14 : decode cX10_start 14 = .ok (.ifCond .eq 13, 3) := by decide +kernel
theorem dX10_start_17 : decode cX10_start 17 = .ok (.iload 4, 2) := by decide +kernel
theorem dX10_start_19 : decode cX10_start 19 = .ok (.iconst 0, 1) := by decide +kernel
theorem dX10_start_20 : decode cX10_start 20 = .ok (.iconst 4, 1) := by decide +kernel
theorem dX10_start_21 : decode cX10_start 21 = .ok (.invokestatic 62, 3) := by decide +kernel
theorem dX10_start_24 : decode cX10_start 24 = .ok (.ifCond .ne 6, 3) := by decide +kernel
theorem dX10_start_27 : decode cX10_start 27 = .ok (.ldc 66, 2) := by decide +kernel
theorem dX10_start_29 : decode cX10_start 29 = .ok (.ireturn, 1) := by decide +kernel
theorem dX10_start_30 : decode cX10_start 30 = .ok (.aload_n 0, 1) := by decide +kernel
theorem dX10_start_31 : decode cX10_start 31 = .ok (.getfield 23, 3) := by decide +kernel
theorem dX10_start_34 : decode cX10_start 34 = .ok (.aload_n 0, 1) := by decide +kernel
theorem dX10_start_35 : decode cX10_start 35 = .ok (.getfield 10, 3) := by decide +kernel
theorem dX10_start_38 : decode cX10_start 38 = .ok (.invokevirtual 71, 3) := by decide +kernel
theorem dX10_start_41 : decode cX10_start 41 = .ok (.aload_n 0, 1) := by decide +kernel
theorem dX10_start_42 : decode cX10_start 42 = .ok (.getfield 10, 3) := by decide +kernel
theorem dX10_start_45 : decode cX10_start 45 = .ok (.getfield 139, 3) := by decide +kernel
theorem dX10_start_48 : decode cX10_start 48 = .ok (.iload_n 1, 1) := by decide +kernel
theorem dX10_start_49 : decode cX10_start 49 = .ok (.iload_n 2, 1) := by decide +kernel
theorem dX10_start_50 : decode cX10_start 50 = .ok (.iload_n 3, 1) := by decide +kernel
theorem dX10_start_51 : decode cX10_start 51 = .ok (.iconst 1, 1) := by decide +kernel
theorem dX10_start_52 : decode cX10_start 52 = .ok (.iload 4, 2) := by decide +kernel
theorem dX10_start_54 : decode cX10_start 54 = .ok (.ishl, 1) := by decide +kernel
theorem dX10_start_55 : decode cX10_start 55 = .ok (.invokevirtual 148, 3) := by decide +kernel
theorem dX10_start_58 : decode cX10_start 58 = .ok (.aload_n 0, 1) := by decide +kernel
theorem dX10_start_59 : decode cX10_start 59 = .ok (.getfield 10, 3) := by decide +kernel
theorem dX10_start_62 : decode cX10_start 62 = .ok (.getfield 125, 3) := by decide +kernel
theorem dX10_start_65 : decode cX10_start 65 = .ok (.invokevirtual 151, 3) := by decide +kernel
theorem dX10_start_68 : decode cX10_start 68 = .ok (.aload_n 0, 1) := by decide +kernel
theorem dX10_start_69 : decode cX10_start 69 = .ok (.getfield 10, 3) := by decide +kernel
theorem dX10_start_72 : decode cX10_start 72 = .ok (.invokevirtual 117, 3) := by decide +kernel
theorem dX10_start_75 : decode cX10_start 75 = .ok (.invokestatic 121, 3) := by decide +kernel
theorem dX10_start_78 : decode cX10_start 78 = .ok (.ireturn, 1) := by decide +kernel
theorem dX10_order_0 : decode cX10_order 0 = .ok (.iload_n 1, 1) := by decide +kernel
theorem dX10_order_1 : decode cX10_order 1 = .ok (.iconst 0, 1) := by decide +kernel
theorem dX10_order_2 : decode cX10_order 2 = .ok (.iconst 2, 1) := by decide +kernel
theorem dX10_order_3 : decode cX10_order 3 = .ok (.invokestatic 62, 3) := by decide +kernel
theorem dX10_order_6 : decode cX10_order 6 = .ok (.ifCond .eq 12, 3) := by decide +kernel
theorem dX10_order_9 : decode cX10_order 9 = .ok (.iload_n 2, 1) := by decide +kernel
theorem dX10_order_10 : decode cX10_order 10 = .ok (.iconst 0, 1) := by decide +kernel
theorem dX10_order_11 : decode cX10_order 11 = .ok (.iconst 1, 1) := by decide +kernel
theorem dX10_order_12 : decode cX10_order 12 = .ok (.invokestatic 62, 3) := by decide +kernel
theorem dX10_order_15 : decode cX10_order 15 = .ok (.ifCond .ne 6, 3) := by decide +kernel
theorem dX10_order_18 : decode cX10_order 18 = .ok (.ldc 66, 2) := by decide +kernel
theorem dX10_order_20 : decode cX10_order 20 = .ok (.ireturn, 1) := by decide +kernel
theorem dX10_order_21 : decode cX10_order 21 = .ok (.bipush 10, 2) := by decide +kernel
theorem dX10_order_23 : decode cX10_order 23 = .ok (.aload_n 0, 1) := by decide +kernel
theorem dX10_order_24 : decode cX10_order 24 = .ok (.getfield 10, 3) := by decide +kernel
theorem dX10_order_27 : decode cX10_order 27 = .ok (.getfield 154, 3) := by decide +kernel
theorem dX10_order_30 : decode cX10_order 30 = .ok (.imul, 1) := by decide +kernel
theorem dX10_order_31 : decode cX10_order 31 = .ok (.aload_n 0, 1) := by decide +kernel
theorem dX10_order_32 : decode cX10_order 32 = .ok (.getfield 10, 3) := by decide +kernel
theorem dX10_order_35 : decode cX10_order 35 = .ok (.getfield 157, 3) := by decide +kernel
theorem dX10_order_38 : decode cX10_order 38 = .ok (.iadd, 1) := by decide +kernel
theorem dX10_order_39 : decode cX10_order 39 = .ok (.istore_n 3, 1) := by decide +kernel
theorem dX10_order_40 : decode cX10_order 40 = .ok (.aload_n 0, 1) := by decide +kernel
theorem dX10_order_41 : decode cX10_order 41 = .ok (.getfield 23, 3) := by decide +kernel
theorem dX10_order_44 : decode cX10_order 44 = .ok (.aload_n 0, 1) := by decide +kernel
theorem dX10_order_45 : decode cX10_order 45 = .ok (.getfield 10, 3) := by decide +kernel
theorem dX10_order_48 : decode cX10_order 48 = .ok (.invokevirtual 71, 3) := by decide +kernel
theorem dX10_order_51 : decode cX10_order 51 = .ok (.aload_n 0, 1) := by decide +kernel
theorem dX10_order_52 : decode cX10_order 52 = .ok (.getfield 10, 3) := by decide +kernel
theorem dX10_order_55 : decode cX10_order 55 = .ok (.iload_n 1, 1) := by decide +kernel
theorem dX10_order_56 : decode cX10_order 56 = .ok (.putfield 154, 3) := by decide +kernel
theorem dX10_order_59 : decode cX10_order 59 = .ok (.aload_n 0, 1) := by decide +kernel
theorem dX10_order_60 : decode cX10_order 60 = .ok (.getfield 10, 3) := by decide +kernel
theorem dX10_order_63 : decode cX10_order 63 = .ok (.iload_n 2, 1) := by decide +kernel
theorem dX10_order_64 : decode cX10_order 64 = .ok (.putfield 157, 3) := by decide +kernel
theorem dX10_order_67 : decode cX10_order 67 = .ok (.iload_n 3, 1) := by decide +kernel
theorem dX10_order_68 : decode cX10_order 68 = .ok (.ireturn, 1) := by decide +kernel
theorem dX10_poll_0 : decode cX10_poll 0 = .ok (.aload_n 0, 1) := by decide +kernel
theorem dX10_poll_1 : decode cX10_poll 1 = .ok (.getfield 10, 3) := by decide +kernel
theorem dX10_poll_4 : decode cX10_poll 4 = .ok (.invokevirtual 160, 3) := by decide +kernel
theorem dX10_poll_7 : decode cX10_poll 7 = .ok (.ifCond .ne 6, 3) := by decide +kernel
theorem dX10_poll_10 : decode cX10_poll 10 = .ok (.ldc 93, 2) := by decide +kernel
theorem dX10_poll_12 : decode cX10_poll 12 = .ok (.ireturn, 1) := by decide +kernel
theorem dX10_poll_13 : decode cX10_poll 13 = .ok (.aload_n 0, 1) := by decide +kernel
theorem dX10_poll_14 : decode cX10_poll 14 = .ok (.getfield 23, 3) := by decide +kernel
theorem dX10_poll_17 : decode cX10_poll 17 = .ok (.aload_n 0, 1) := by decide +kernel
theorem dX10_poll_18 : decode cX10_poll 18 = .ok (.getfield 10, 3) := by decide +kernel
theorem dX10_poll_21 : decode cX10_poll 21 = .ok (.invokevirtual 71, 3) := by decide +kernel
theorem dX10_poll_24 : decode cX10_poll 24 = .ok (.aload_n 0, 1) := by decide +kernel
theorem dX10_poll_25 : decode cX10_poll 25 = .ok (.getfield 10, 3) := by decide +kernel
theorem dX10_poll_28 : decode cX10_poll 28 = .ok (.aload_n 0, 1) := by decide +kernel
theorem dX10_poll_29 : decode cX10_poll 29 = .ok (.getfield 44, 3) := by decide +kernel
theorem dX10_poll_32 : decode cX10_poll 32 = .ok (.invokevirtual 163, 3) := by decide +kernel
theorem dX10_poll_35 : decode cX10_poll 35 = .ok (.ireturn, 1) := by decide +kernel
theorem dX10_run_0 : decode cX10_run 0 = .ok (.iload_n 1, 1) := by decide +kernel
theorem dX10_run_1 : decode cX10_run 1 = .ok (.iconst 1, 1) := by decide +kernel
theorem dX10_run_2 : decode cX10_run 2 = .ok (.bipush 60, 2) := by decide +kernel
theorem dX10_run_4 : decode cX10_run 4 = .ok (.invokestatic 62, 3) := by decide +kernel
theorem dX10_run_7 : decode cX10_run 7 = .ok (.ifCond .ne 6, 3) := by decide +kernel
theorem dX10_run_10 : decode cX10_run 10 = .ok (.ldc 66, 2) := by decide +kernel
theorem dX10_run_12 : decode cX10_run 12 = .ok (.ireturn, 1) := by decide +kernel
theorem dX10_run_13 : decode cX10_run 13 = .ok (.aload_n 0, 1) := by decide +kernel
theorem dX10_run_14 : decode cX10_run 14 = .ok (.getfield 10, 3) := by decide +kernel
theorem dX10_run_17 : decode cX10_run 17 = .ok (.invokevirtual 160, 3) := by decide +kernel
theorem dX10_run_20 : decode cX10_run 20 = .ok (.ifCond .ne 6, 3) := by decide +kernel
theorem dX10_run_23 : decode cX10_run 23 = .ok (.ldc 93, 2) := by decide +kernel
theorem dX10_run_25 : decode cX10_run 25 = .ok (.ireturn, 1) := by decide +kernel
theorem dX10_run_26 : decode cX10_run 26 = .ok (.aload_n 0, 1) := by decide +kernel
theorem dX10_run_27 : decode cX10_run 27 = .ok (.getfield 23, 3) := by decide +kernel
theorem dX10_run_30 : decode cX10_run 30 = .ok (.aload_n 0, 1) := by decide +kernel
theorem dX10_run_31 : decode cX10_run 31 = .ok (.getfield 10, 3) := by decide +kernel
theorem dX10_run_34 : decode cX10_run 34 = .ok (.invokevirtual 71, 3) := by decide +kernel
theorem dX10_run_37 : decode cX10_run 37 = .ok (.iconst 0, 1) := by decide +kernel
theorem dX10_run_38 : decode cX10_run 38 = .ok (.istore_n 2, 1) := by decide +kernel
theorem dX10_run_39 : decode cX10_run 39 = .ok (.aload_n 0, 1) := by decide +kernel
theorem dX10_run_40 : decode cX10_run 40 = .ok (.getfield 10, 3) := by decide +kernel
theorem dX10_run_43 : decode cX10_run 43 = .ok (.aload_n 0, 1) := by decide +kernel
theorem dX10_run_44 : decode cX10_run 44 = .ok (.getfield 44, 3) := by decide +kernel
theorem dX10_run_47 : decode cX10_run 47 = .ok (.invokevirtual 163, 3) := by decide +kernel
theorem dX10_run_50 : decode cX10_run 50 = .ok (.pop, 1) := by decide +kernel
theorem dX10_run_51 : decode cX10_run 51 = .ok (.iinc 2 1, 3) := by decide +kernel
theorem dX10_run_54 : decode cX10_run 54 = .ok (.iload_n 2, 1) := by decide +kernel
theorem dX10_run_55 : decode cX10_run 55 = .ok (.iload_n 1, 1) := by decide +kernel
theorem dX10_run_56 : decode cX10_run 56 = .ok (.if_icmp .ge 16, 3) := by decide +kernel
theorem dX10_run_59 : decode cX10_run 59 = .ok (.aload_n 0, 1) := by decide +kernel
theorem dX10_run_60 : decode cX10_run 60 = .ok (.getfield 10, 3) := by decide +kernel
theorem dX10_run_63 : decode cX10_run 63 = .ok (.getfield 139, 3) := by decide +kernel
theorem dX10_run_66 : decode cX10_run 66 = .ok (.getfield 167, 3) := by decide +kernel
theorem dX10_run_69 : decode cX10_run 69 = .ok (.ifCond .eq (-30), 3) := by decide +kernel
theorem dX10_run_72 : decode cX10_run 72 = .ok (.iload_n 2, 1) := by decide +kernel
theorem dX10_run_73 : decode cX10_run 73 = .ok (.ireturn, 1) := by decide +kernel
theorem dX10_value_0 : decode cX10_value 0 = .ok (.aload_n 0, 1) := by decide +kernel
theorem dX10_value_1 : decode cX10_value 1 = .ok (.getfield 10, 3) := by decide +kernel
theorem dX10_value_4 : decode cX10_value 4 = .ok (.iload_n 1, 1) := by decide +kernel
theorem dX10_value_5 : decode cX10_value 5 = .ok (.iload_n 2, 1) := by decide +kernel
theorem dX10_value_6 : decode cX10_value 6 = .ok (.iload_n 3, 1) := by decide +kernel
theorem dX10_value_7 : decode cX10_value 7 = .ok (.bipush (-50), 2) := by decide +kernel
theorem dX10_value_9 : decode cX10_value 9 = .ok (.bipush 50, 2) := by decide +kernel
theorem dX10_value_11 : decode cX10_value 11 = .ok (.invokevirtual 75, 3) := by decide +kernel
theorem dX10_value_14 : decode cX10_value 14 = .ok (.ifCond .eq 13, 3) := by decide +kernel
theorem dX10_value_17 : decode cX10_value 17 = .ok (.iload 4, 2) := by decide +kernel
theorem dX10_value_19 : decode cX10_value 19 = .ok (.iconst 0, 1) := by decide +kernel
theorem dX10_value_20 : decode cX10_value 20 = .ok (.iconst 1, 1) := by decide +kernel
theorem dX10_value_21 : decode cX10_value 21 = .ok (.invokestatic 62, 3) := by decide +kernel
theorem dX10_value_24 : decode cX10_value 24 = .ok (.ifCond .ne 7, 3) := by decide +kernel
theorem dX10_value_27 : decode cX10_value 27 = .ok (.ldc2_w 170, 3) := by decide +kernel
theorem dX10_value_30 : decode cX10_value 30 = .ok (.lreturn, 1) := by decide +kernel
theorem dX10_value_31 : decode cX10_value 31 = .ok (.iload 4, 2) := by decide +kernel
theorem dX10_value_33 : decode cX10_value 33 = .ok (.iconst 1, 1) := by decide +kernel
theorem dX10_value_34 : decode cX10_value 34 = .ok (.if_icmp .ne 7, 3) := by decide +kernel
theorem dX10_value_37 : decode cX10_value 37 = .ok (.iconst 2, 1) := by decide +kernel
theorem dX10_value_38 : decode cX10_value 38 = .ok (.goto 4, 3) := by decide +kernel
theorem dX10_value_41 : decode cX10_value 41 = .ok (.iconst 4, 1) := by decide +kernel
theorem dX10_value_42 : decode cX10_value 42 = .ok (.istore 5, 2) := by decide +kernel
theorem dX10_value_44 : decode cX10_value 44 = .ok (.ldc2_w 172, 3) := by decide +kernel
theorem dX10_value_47 : decode cX10_value 47 = .ok (.aload_n 0, 1) := by decide +kernel
theorem dX10_value_48 : decode cX10_value 48 = .ok (.getfield 10, 3) := by decide +kernel
theorem dX10_value_51 : decode cX10_value 51 = .ok (.getfield 79, 3) := by decide +kernel
theorem dX10_value_54 : decode cX10_value 54 = .ok (.iload_n 1, 1) := by decide +kernel
theorem dX10_value_55 : decode cX10_value 55 = .ok (.iload_n 2, 1) := by decide +kernel
theorem dX10_value_56 : decode cX10_value 56 = .ok (.iload_n 3, 1) := by decide +kernel
theorem dX10_value_57 : decode cX10_value 57 = .ok (.iload 5, 2) := by decide +kernel
theorem dX10_value_59 : decode cX10_value 59 = .ok (.invokevirtual 174, 3) := by decide +kernel
theorem dX10_value_62 : decode cX10_value 62 = .ok (.ladd, 1) := by decide +kernel
theorem dX10_value_63 : decode cX10_value 63 = .ok (.lreturn, 1) := by decide +kernel
theorem dX10_termOf_0 : decode cX10_termOf 0 = .ok (.iload_n 1, 1) := by decide +kernel
theorem dX10_termOf_1 : decode cX10_termOf 1 = .ok (.ifCond .lt 12, 3) := by decide +kernel
theorem dX10_termOf_4 : decode cX10_termOf 4 = .ok (.iload_n 2, 1) := by decide +kernel
theorem dX10_termOf_5 : decode cX10_termOf 5 = .ok (.iconst 0, 1) := by decide +kernel
theorem dX10_termOf_6 : decode cX10_termOf 6 = .ok (.iconst 3, 1) := by decide +kernel
theorem dX10_termOf_7 : decode cX10_termOf 7 = .ok (.invokestatic 62, 3) := by decide +kernel
theorem dX10_termOf_10 : decode cX10_termOf 10 = .ok (.ifCond .ne 6, 3) := by decide +kernel
theorem dX10_termOf_13 : decode cX10_termOf 13 = .ok (.ldc 66, 2) := by decide +kernel
theorem dX10_termOf_15 : decode cX10_termOf 15 = .ok (.ireturn, 1) := by decide +kernel
theorem dX10_termOf_16 : decode cX10_termOf 16 = .ok (.iload_n 1, 1) := by decide +kernel
theorem dX10_termOf_17 : decode cX10_termOf 17 = .ok (.aload_n 0, 1) := by decide +kernel
theorem dX10_termOf_18 : decode cX10_termOf 18 = .ok (.getfield 10, 3) := by decide +kernel
theorem dX10_termOf_21 : decode cX10_termOf 21 = .ok (.getfield 79, 3) := by decide +kernel
theorem dX10_termOf_24 : decode cX10_termOf 24 = .ok (.getfield 83, 3) := by decide +kernel
theorem dX10_termOf_27 : decode cX10_termOf 27 = .ok (.if_icmp .lt 6, 3) := by decide +kernel
theorem dX10_termOf_30 : decode cX10_termOf 30 = .ok (.ldc 178, 2) := by decide +kernel
theorem dX10_termOf_32 : decode cX10_termOf 32 = .ok (.ireturn, 1) := by decide +kernel
theorem dX10_termOf_33 : decode cX10_termOf 33 = .ok (.iload_n 2, 1) := by decide +kernel
theorem dX10_termOf_34 : decode cX10_termOf 34 = .ok (.ifCond .ne 16, 3) := by decide +kernel
theorem dX10_termOf_37 : decode cX10_termOf 37 = .ok (.aload_n 0, 1) := by decide +kernel
theorem dX10_termOf_38 : decode cX10_termOf 38 = .ok (.getfield 10, 3) := by decide +kernel
theorem dX10_termOf_41 : decode cX10_termOf 41 = .ok (.getfield 79, 3) := by decide +kernel
theorem dX10_termOf_44 : decode cX10_termOf 44 = .ok (.getfield 94, 3) := by decide +kernel
theorem dX10_termOf_47 : decode cX10_termOf 47 = .ok (.iload_n 1, 1) := by decide +kernel
theorem dX10_termOf_48 : decode cX10_termOf 48 = .ok (.iaload, 1) := by decide +kernel
theorem dX10_termOf_49 : decode cX10_termOf 49 = .ok (.ireturn, 1) := by decide +kernel
theorem dX10_termOf_50 : decode cX10_termOf 50 = .ok (.aload_n 0, 1) := by decide +kernel
theorem dX10_termOf_51 : decode cX10_termOf 51 = .ok (.getfield 10, 3) := by decide +kernel
theorem dX10_termOf_54 : decode cX10_termOf 54 = .ok (.getfield 79, 3) := by decide +kernel
theorem dX10_termOf_57 : decode cX10_termOf 57 = .ok (.getfield 179, 3) := by decide +kernel
theorem dX10_termOf_60 : decode cX10_termOf 60 = .ok (.iconst 3, 1) := by decide +kernel
theorem dX10_termOf_61 : decode cX10_termOf 61 = .ok (.iload_n 1, 1) := by decide +kernel
theorem dX10_termOf_62 : decode cX10_termOf 62 = .ok (.imul, 1) := by decide +kernel
theorem dX10_termOf_63 : decode cX10_termOf 63 = .ok (.iload_n 2, 1) := by decide +kernel
theorem dX10_termOf_64 : decode cX10_termOf 64 = .ok (.iadd, 1) := by decide +kernel
theorem dX10_termOf_65 : decode cX10_termOf 65 = .ok (.iconst 1, 1) := by decide +kernel
theorem dX10_termOf_66 : decode cX10_termOf 66 = .ok (.isub, 1) := by decide +kernel
theorem dX10_termOf_67 : decode cX10_termOf 67 = .ok (.iaload, 1) := by decide +kernel
theorem dX10_termOf_68 : decode cX10_termOf 68 = .ok (.ireturn, 1) := by decide +kernel
theorem dX10_directionOf_0 : decode cX10_directionOf 0 = .ok (.iload_n 1, 1) := by decide +kernel
theorem dX10_directionOf_1 : decode cX10_directionOf 1 = .ok (.ifCond .lt 12, 3) := by decide +kernel
theorem dX10_directionOf_4 : decode cX10_directionOf 4 = .ok (.iload_n 2, 1) := by decide +kernel
theorem dX10_directionOf_5 : decode cX10_directionOf 5 = .ok (.iconst 0, 1) := by decide +kernel
theorem dX10_directionOf_6 : decode cX10_directionOf 6 = .ok (.iconst 3, 1) := by decide +kernel
theorem dX10_directionOf_7 : decode cX10_directionOf 7 = .ok (.invokestatic 62, 3) := by decide +kernel
theorem dX10_directionOf_10 : decode cX10_directionOf 10 = .ok (.ifCond .ne 6, 3) := by decide +kernel
theorem dX10_directionOf_13 : decode cX10_directionOf 13 = .ok (.ldc 66, 2) := by decide +kernel
theorem dX10_directionOf_15 : decode cX10_directionOf 15 = .ok (.ireturn, 1) := by decide +kernel
theorem dX10_directionOf_16 : decode cX10_directionOf 16 = .ok (.iload_n 1, 1) := by decide +kernel
theorem dX10_directionOf_17 : decode cX10_directionOf 17 = .ok (.aload_n 0, 1) := by decide +kernel
theorem dX10_directionOf_18 : decode cX10_directionOf 18 = .ok (.getfield 10, 3) := by decide +kernel
theorem dX10_directionOf_21 : decode cX10_directionOf 21 = .ok (.getfield 125, 3) := by decide +kernel
theorem dX10_directionOf_24 : decode cX10_directionOf 24 = .ok (.getfield 134, 3) := by decide +kernel
theorem dX10_directionOf_27 : decode cX10_directionOf 27 = .ok (.if_icmp .lt 6, 3) := by decide +kernel
theorem dX10_directionOf_30 : decode cX10_directionOf 30 = .ok (.ldc 178, 2) := by decide +kernel
theorem dX10_directionOf_32 : decode cX10_directionOf 32 = .ok (.ireturn, 1) := by decide +kernel
theorem dX10_directionOf_33 : decode cX10_directionOf 33 = .ok (.iload_n 2, 1) := by decide +kernel
theorem dX10_directionOf_34 : decode cX10_directionOf 34 = .ok (.iconst 3, 1) := by decide +kernel
theorem dX10_directionOf_35 : decode cX10_directionOf 35 = .ok (.if_icmp .ne 16, 3) := by decide +kernel
theorem dX10_directionOf_38 : decode cX10_directionOf 38 = .ok (.aload_n 0, 1) := by decide +kernel
theorem dX10_directionOf_39 : decode cX10_directionOf 39 = .ok (.getfield 10, 3) := by decide +kernel
theorem dX10_directionOf_42 : decode cX10_directionOf 42 = .ok (.getfield 125, 3) := by decide +kernel
theorem dX10_directionOf_45 : decode cX10_directionOf 45 = .ok (.getfield 182, 3) := by decide +kernel
theorem dX10_directionOf_48 : decode cX10_directionOf 48 = .ok (.iload_n 1, 1) := by decide +kernel
theorem dX10_directionOf_49 : decode cX10_directionOf 49 = .ok (.iaload, 1) := by decide +kernel
theorem dX10_directionOf_50 : decode cX10_directionOf 50 = .ok (.ireturn, 1) := by decide +kernel
theorem dX10_directionOf_51 : decode cX10_directionOf 51 = .ok (.aload_n 0, 1) := by decide +kernel
theorem dX10_directionOf_52 : decode cX10_directionOf 52 = .ok (.getfield 10, 3) := by decide +kernel
theorem dX10_directionOf_55 : decode cX10_directionOf 55 = .ok (.getfield 125, 3) := by decide +kernel
theorem dX10_directionOf_58 : decode cX10_directionOf 58 = .ok (.getfield 185, 3) := by decide +kernel
theorem dX10_directionOf_61 : decode cX10_directionOf 61 = .ok (.iconst 3, 1) := by decide +kernel
theorem dX10_directionOf_62 : decode cX10_directionOf 62 = .ok (.iload_n 1, 1) := by decide +kernel
theorem dX10_directionOf_63 : decode cX10_directionOf 63 = .ok (.imul, 1) := by decide +kernel
theorem dX10_directionOf_64 : decode cX10_directionOf 64 = .ok (.iload_n 2, 1) := by decide +kernel
theorem dX10_directionOf_65 : decode cX10_directionOf 65 = .ok (.iadd, 1) := by decide +kernel
theorem dX10_directionOf_66 : decode cX10_directionOf 66 = .ok (.iaload, 1) := by decide +kernel
theorem dX10_directionOf_67 : decode cX10_directionOf 67 = .ok (.ireturn, 1) := by decide +kernel
theorem dX10_searchOf_0 : decode cX10_searchOf 0 = .ok (.iload_n 1, 1) := by decide +kernel
theorem dX10_searchOf_1 : decode cX10_searchOf 1 = .ok (.tableswitch 167 0 9 #[55, 55, 55, 68, 79, 90, 101, 112, 142, 153], 55) := by decide +kernel
theorem dX10_searchOf_56 : decode cX10_searchOf 56 = .ok (.aload_n 0, 1) := by decide +kernel
theorem dX10_searchOf_57 : decode cX10_searchOf 57 = .ok (.getfield 10, 3) := by decide +kernel
theorem dX10_searchOf_60 : decode cX10_searchOf 60 = .ok (.getfield 139, 3) := by decide +kernel
theorem dX10_searchOf_63 : decode cX10_searchOf 63 = .ok (.getfield 188, 3) := by decide +kernel
theorem dX10_searchOf_66 : decode cX10_searchOf 66 = .ok (.iload_n 1, 1) := by decide +kernel
theorem dX10_searchOf_67 : decode cX10_searchOf 67 = .ok (.iaload, 1) := by decide +kernel
theorem dX10_searchOf_68 : decode cX10_searchOf 68 = .ok (.ireturn, 1) := by decide +kernel
theorem dX10_searchOf_69 : decode cX10_searchOf 69 = .ok (.aload_n 0, 1) := by decide +kernel
theorem dX10_searchOf_70 : decode cX10_searchOf 70 = .ok (.getfield 10, 3) := by decide +kernel
theorem dX10_searchOf_73 : decode cX10_searchOf 73 = .ok (.getfield 139, 3) := by decide +kernel
theorem dX10_searchOf_76 : decode cX10_searchOf 76 = .ok (.getfield 191, 3) := by decide +kernel
theorem dX10_searchOf_79 : decode cX10_searchOf 79 = .ok (.ireturn, 1) := by decide +kernel
theorem dX10_searchOf_80 : decode cX10_searchOf 80 = .ok (.aload_n 0, 1) := by decide +kernel
theorem dX10_searchOf_81 : decode cX10_searchOf 81 = .ok (.getfield 10, 3) := by decide +kernel
theorem dX10_searchOf_84 : decode cX10_searchOf 84 = .ok (.getfield 139, 3) := by decide +kernel
theorem dX10_searchOf_87 : decode cX10_searchOf 87 = .ok (.getfield 194, 3) := by decide +kernel
theorem dX10_searchOf_90 : decode cX10_searchOf 90 = .ok (.ireturn, 1) := by decide +kernel
theorem dX10_searchOf_91 : decode cX10_searchOf 91 = .ok (.aload_n 0, 1) := by decide +kernel
theorem dX10_searchOf_92 : decode cX10_searchOf 92 = .ok (.getfield 10, 3) := by decide +kernel
theorem dX10_searchOf_95 : decode cX10_searchOf 95 = .ok (.getfield 139, 3) := by decide +kernel
theorem dX10_searchOf_98 : decode cX10_searchOf 98 = .ok (.getfield 197, 3) := by decide +kernel
theorem dX10_searchOf_101 : decode cX10_searchOf 101 = .ok (.ireturn, 1) := by decide +kernel
theorem dX10_searchOf_102 : decode cX10_searchOf 102 = .ok (.aload_n 0, 1) := by decide +kernel
theorem dX10_searchOf_103 : decode cX10_searchOf 103 = .ok (.getfield 10, 3) := by decide +kernel
theorem dX10_searchOf_106 : decode cX10_searchOf 106 = .ok (.getfield 139, 3) := by decide +kernel
theorem dX10_searchOf_109 : decode cX10_searchOf 109 = .ok (.getfield 200, 3) := by decide +kernel
theorem dX10_searchOf_112 : decode cX10_searchOf 112 = .ok (.ireturn, 1) := by decide +kernel
theorem dX10_searchOf_113 : decode cX10_searchOf 113 = .ok (.aload_n 0, 1) := by decide +kernel
theorem dX10_searchOf_114 : decode cX10_searchOf 114 = .ok (.getfield 10, 3) := by decide +kernel
theorem dX10_searchOf_117 : decode cX10_searchOf 117 = .ok (.getfield 139, 3) := by decide +kernel
theorem dX10_searchOf_120 : decode cX10_searchOf 120 = .ok (.getfield 203, 3) := by decide +kernel
theorem dX10_searchOf_123 : decode cX10_searchOf 123 = .ok (.iconst (-1), 1) := by decide +kernel
theorem dX10_searchOf_124 : decode cX10_searchOf 124 = .ok (.if_icmp .ne 8, 3) := by decide +kernel
theorem dX10_searchOf_127 : decode cX10_searchOf 127 = .ok (.ldc 178, 2) := by decide +kernel
theorem dX10_searchOf_129 : decode cX10_searchOf 129 = .ok (.goto 13, 3) := by decide +kernel
theorem dX10_searchOf_132 : decode cX10_searchOf 132 = .ok (.aload_n 0, 1) := by decide +kernel
theorem dX10_searchOf_133 : decode cX10_searchOf 133 = .ok (.getfield 10, 3) := by decide +kernel
theorem dX10_searchOf_136 : decode cX10_searchOf 136 = .ok (.getfield 139, 3) := by decide +kernel
theorem dX10_searchOf_139 : decode cX10_searchOf 139 = .ok (.getfield 203, 3) := by decide +kernel
theorem dX10_searchOf_142 : decode cX10_searchOf 142 = .ok (.ireturn, 1) := by decide +kernel
theorem dX10_searchOf_143 : decode cX10_searchOf 143 = .ok (.aload_n 0, 1) := by decide +kernel
theorem dX10_searchOf_144 : decode cX10_searchOf 144 = .ok (.getfield 10, 3) := by decide +kernel
theorem dX10_searchOf_147 : decode cX10_searchOf 147 = .ok (.getfield 139, 3) := by decide +kernel
theorem dX10_searchOf_150 : decode cX10_searchOf 150 = .ok (.getfield 206, 3) := by decide +kernel
theorem dX10_searchOf_153 : decode cX10_searchOf 153 = .ok (.ireturn, 1) := by decide +kernel
theorem dX10_searchOf_154 : decode cX10_searchOf 154 = .ok (.aload_n 0, 1) := by decide +kernel
theorem dX10_searchOf_155 : decode cX10_searchOf 155 = .ok (.getfield 10, 3) := by decide +kernel
theorem dX10_searchOf_158 : decode cX10_searchOf 158 = .ok (.getfield 139, 3) := by decide +kernel
theorem dX10_searchOf_161 : decode cX10_searchOf 161 = .ok (.getfield 167, 3) := by decide +kernel
theorem dX10_searchOf_164 : decode cX10_searchOf 164 = .ok (.invokestatic 121, 3) := by decide +kernel
theorem dX10_searchOf_167 : decode cX10_searchOf 167 = .ok (.ireturn, 1) := by decide +kernel
theorem dX10_searchOf_168 : decode cX10_searchOf 168 = .ok (.ldc 66, 2) := by decide +kernel
theorem dX10_searchOf_170 : decode cX10_searchOf 170 = .ok (.ireturn, 1) := by decide +kernel
theorem dX10_leftAt_0 : decode cX10_leftAt 0 = .ok (.iload_n 1, 1) := by decide +kernel
theorem dX10_leftAt_1 : decode cX10_leftAt 1 = .ok (.ifCond .lt 14, 3) := by decide +kernel
theorem dX10_leftAt_4 : decode cX10_leftAt 4 = .ok (.aload_n 0, 1) := by decide +kernel
theorem dX10_leftAt_5 : decode cX10_leftAt 5 = .ok (.getfield 10, 3) := by decide +kernel
theorem dX10_leftAt_8 : decode cX10_leftAt 8 = .ok (.iload_n 2, 1) := by decide +kernel
theorem dX10_leftAt_9 : decode cX10_leftAt 9 = .ok (.invokevirtual 101, 3) := by decide +kernel
theorem dX10_leftAt_12 : decode cX10_leftAt 12 = .ok (.ifCond .ne 6, 3) := by decide +kernel
theorem dX10_leftAt_15 : decode cX10_leftAt 15 = .ok (.ldc 66, 2) := by decide +kernel
theorem dX10_leftAt_17 : decode cX10_leftAt 17 = .ok (.ireturn, 1) := by decide +kernel
theorem dX10_leftAt_18 : decode cX10_leftAt 18 = .ok (.iload_n 1, 1) := by decide +kernel
theorem dX10_leftAt_19 : decode cX10_leftAt 19 = .ok (.aload_n 0, 1) := by decide +kernel
theorem dX10_leftAt_20 : decode cX10_leftAt 20 = .ok (.getfield 10, 3) := by decide +kernel
theorem dX10_leftAt_23 : decode cX10_leftAt 23 = .ok (.getfield 139, 3) := by decide +kernel
theorem dX10_leftAt_26 : decode cX10_leftAt 26 = .ok (.getfield 206, 3) := by decide +kernel
theorem dX10_leftAt_29 : decode cX10_leftAt 29 = .ok (.if_icmp .lt 6, 3) := by decide +kernel
theorem dX10_leftAt_32 : decode cX10_leftAt 32 = .ok (.ldc 178, 2) := by decide +kernel
theorem dX10_leftAt_34 : decode cX10_leftAt 34 = .ok (.ireturn, 1) := by decide +kernel
theorem dX10_leftAt_35 : decode cX10_leftAt 35 = .ok (.aload_n 0, 1) := by decide +kernel
theorem dX10_leftAt_36 : decode cX10_leftAt 36 = .ok (.getfield 10, 3) := by decide +kernel
theorem dX10_leftAt_39 : decode cX10_leftAt 39 = .ok (.getfield 139, 3) := by decide +kernel
theorem dX10_leftAt_42 : decode cX10_leftAt 42 = .ok (.getfield 209, 3) := by decide +kernel
theorem dX10_leftAt_45 : decode cX10_leftAt 45 = .ok (.iconst 3, 1) := by decide +kernel
theorem dX10_leftAt_46 : decode cX10_leftAt 46 = .ok (.iload_n 1, 1) := by decide +kernel
theorem dX10_leftAt_47 : decode cX10_leftAt 47 = .ok (.imul, 1) := by decide +kernel
theorem dX10_leftAt_48 : decode cX10_leftAt 48 = .ok (.iload_n 2, 1) := by decide +kernel
theorem dX10_leftAt_49 : decode cX10_leftAt 49 = .ok (.iadd, 1) := by decide +kernel
theorem dX10_leftAt_50 : decode cX10_leftAt 50 = .ok (.iaload, 1) := by decide +kernel
theorem dX10_leftAt_51 : decode cX10_leftAt 51 = .ok (.ireturn, 1) := by decide +kernel
theorem dX10_count_0 : decode cX10_count 0 = .ok (.iload_n 1, 1) := by decide +kernel
theorem dX10_count_1 : decode cX10_count 1 = .ok (.tableswitch 117 0 7 #[47, 55, 66, 77, 85, 93, 101, 109], 47) := by decide +kernel
theorem dX10_count_48 : decode cX10_count 48 = .ok (.aload_n 0, 1) := by decide +kernel
theorem dX10_count_49 : decode cX10_count 49 = .ok (.getfield 10, 3) := by decide +kernel
theorem dX10_count_52 : decode cX10_count 52 = .ok (.getfield 67, 3) := by decide +kernel
theorem dX10_count_55 : decode cX10_count 55 = .ok (.ireturn, 1) := by decide +kernel
theorem dX10_count_56 : decode cX10_count 56 = .ok (.aload_n 0, 1) := by decide +kernel
theorem dX10_count_57 : decode cX10_count 57 = .ok (.getfield 10, 3) := by decide +kernel
theorem dX10_count_60 : decode cX10_count 60 = .ok (.getfield 79, 3) := by decide +kernel
theorem dX10_count_63 : decode cX10_count 63 = .ok (.getfield 83, 3) := by decide +kernel
theorem dX10_count_66 : decode cX10_count 66 = .ok (.ireturn, 1) := by decide +kernel
theorem dX10_count_67 : decode cX10_count 67 = .ok (.aload_n 0, 1) := by decide +kernel
theorem dX10_count_68 : decode cX10_count 68 = .ok (.getfield 10, 3) := by decide +kernel
theorem dX10_count_71 : decode cX10_count 71 = .ok (.getfield 125, 3) := by decide +kernel
theorem dX10_count_74 : decode cX10_count 74 = .ok (.getfield 134, 3) := by decide +kernel
theorem dX10_count_77 : decode cX10_count 77 = .ok (.ireturn, 1) := by decide +kernel
theorem dX10_count_78 : decode cX10_count 78 = .ok (.aload_n 0, 1) := by decide +kernel
theorem dX10_count_79 : decode cX10_count 79 = .ok (.getfield 10, 3) := by decide +kernel
theorem dX10_count_82 : decode cX10_count 82 = .ok (.getfield 154, 3) := by decide +kernel
theorem dX10_count_85 : decode cX10_count 85 = .ok (.ireturn, 1) := by decide +kernel
theorem dX10_count_86 : decode cX10_count 86 = .ok (.aload_n 0, 1) := by decide +kernel
theorem dX10_count_87 : decode cX10_count 87 = .ok (.getfield 10, 3) := by decide +kernel
theorem dX10_count_90 : decode cX10_count 90 = .ok (.getfield 157, 3) := by decide +kernel
theorem dX10_count_93 : decode cX10_count 93 = .ok (.ireturn, 1) := by decide +kernel
theorem dX10_count_94 : decode cX10_count 94 = .ok (.aload_n 0, 1) := by decide +kernel
theorem dX10_count_95 : decode cX10_count 95 = .ok (.getfield 23, 3) := by decide +kernel
theorem dX10_count_98 : decode cX10_count 98 = .ok (.getfield 212, 3) := by decide +kernel
theorem dX10_count_101 : decode cX10_count 101 = .ok (.ireturn, 1) := by decide +kernel
theorem dX10_count_102 : decode cX10_count 102 = .ok (.aload_n 0, 1) := by decide +kernel
theorem dX10_count_103 : decode cX10_count 103 = .ok (.getfield 37, 3) := by decide +kernel
theorem dX10_count_106 : decode cX10_count 106 = .ok (.getfield 213, 3) := by decide +kernel
theorem dX10_count_109 : decode cX10_count 109 = .ok (.ireturn, 1) := by decide +kernel
theorem dX10_count_110 : decode cX10_count 110 = .ok (.aload_n 0, 1) := by decide +kernel
theorem dX10_count_111 : decode cX10_count 111 = .ok (.getfield 30, 3) := by decide +kernel
theorem dX10_count_114 : decode cX10_count 114 = .ok (.invokestatic 121, 3) := by decide +kernel
theorem dX10_count_117 : decode cX10_count 117 = .ok (.ireturn, 1) := by decide +kernel
theorem dX10_count_118 : decode cX10_count 118 = .ok (.aload_n 0, 1) := by decide +kernel
theorem dX10_count_119 : decode cX10_count 119 = .ok (.iload_n 1, 1) := by decide +kernel
theorem dX10_count_120 : decode cX10_count 120 = .ok (.invokevirtual 216, 3) := by decide +kernel
theorem dX10_count_123 : decode cX10_count 123 = .ok (.ireturn, 1) := by decide +kernel
theorem dX10_boundOf_0 : decode cX10_boundOf 0 = .ok (.iload_n 1, 1) := by decide +kernel
theorem dX10_boundOf_1 : decode cX10_boundOf 1 = .ok (.bipush 10, 2) := by decide +kernel
theorem dX10_boundOf_3 : decode cX10_boundOf 3 = .ok (.bipush 9, 2) := by decide +kernel
theorem dX10_boundOf_5 : decode cX10_boundOf 5 = .ok (.aload_n 0, 1) := by decide +kernel
theorem dX10_boundOf_6 : decode cX10_boundOf 6 = .ok (.getfield 10, 3) := by decide +kernel
theorem dX10_boundOf_9 : decode cX10_boundOf 9 = .ok (.getfield 67, 3) := by decide +kernel
theorem dX10_boundOf_12 : decode cX10_boundOf 12 = .ok (.iadd, 1) := by decide +kernel
theorem dX10_boundOf_13 : decode cX10_boundOf 13 = .ok (.invokestatic 62, 3) := by decide +kernel
theorem dX10_boundOf_16 : decode cX10_boundOf 16 = .ok (.ifCond .eq 19, 3) := by decide +kernel
theorem dX10_boundOf_19 : decode cX10_boundOf 19 = .ok (.aload_n 0, 1) := by decide +kernel
theorem dX10_boundOf_20 : decode cX10_boundOf 20 = .ok (.getfield 10, 3) := by decide +kernel
theorem dX10_boundOf_23 : decode cX10_boundOf 23 = .ok (.getfield 105, 3) := by decide +kernel
theorem dX10_boundOf_26 : decode cX10_boundOf 26 = .ok (.getfield 109, 3) := by decide +kernel
theorem dX10_boundOf_29 : decode cX10_boundOf 29 = .ok (.iload_n 1, 1) := by decide +kernel
theorem dX10_boundOf_30 : decode cX10_boundOf 30 = .ok (.bipush 10, 2) := by decide +kernel
theorem dX10_boundOf_32 : decode cX10_boundOf 32 = .ok (.isub, 1) := by decide +kernel
theorem dX10_boundOf_33 : decode cX10_boundOf 33 = .ok (.iaload, 1) := by decide +kernel
theorem dX10_boundOf_34 : decode cX10_boundOf 34 = .ok (.ireturn, 1) := by decide +kernel
theorem dX10_boundOf_35 : decode cX10_boundOf 35 = .ok (.iload_n 1, 1) := by decide +kernel
theorem dX10_boundOf_36 : decode cX10_boundOf 36 = .ok (.bipush 20, 2) := by decide +kernel
theorem dX10_boundOf_38 : decode cX10_boundOf 38 = .ok (.bipush 19, 2) := by decide +kernel
theorem dX10_boundOf_40 : decode cX10_boundOf 40 = .ok (.aload_n 0, 1) := by decide +kernel
theorem dX10_boundOf_41 : decode cX10_boundOf 41 = .ok (.getfield 10, 3) := by decide +kernel
theorem dX10_boundOf_44 : decode cX10_boundOf 44 = .ok (.getfield 67, 3) := by decide +kernel
theorem dX10_boundOf_47 : decode cX10_boundOf 47 = .ok (.iadd, 1) := by decide +kernel
theorem dX10_boundOf_48 : decode cX10_boundOf 48 = .ok (.invokestatic 62, 3) := by decide +kernel
theorem dX10_boundOf_51 : decode cX10_boundOf 51 = .ok (.ifCond .eq 19, 3) := by decide +kernel
theorem dX10_boundOf_54 : decode cX10_boundOf 54 = .ok (.aload_n 0, 1) := by decide +kernel
theorem dX10_boundOf_55 : decode cX10_boundOf 55 = .ok (.getfield 10, 3) := by decide +kernel
theorem dX10_boundOf_58 : decode cX10_boundOf 58 = .ok (.getfield 105, 3) := by decide +kernel
theorem dX10_boundOf_61 : decode cX10_boundOf 61 = .ok (.getfield 114, 3) := by decide +kernel
theorem dX10_boundOf_64 : decode cX10_boundOf 64 = .ok (.iload_n 1, 1) := by decide +kernel
theorem dX10_boundOf_65 : decode cX10_boundOf 65 = .ok (.bipush 20, 2) := by decide +kernel
theorem dX10_boundOf_67 : decode cX10_boundOf 67 = .ok (.isub, 1) := by decide +kernel
theorem dX10_boundOf_68 : decode cX10_boundOf 68 = .ok (.iaload, 1) := by decide +kernel
theorem dX10_boundOf_69 : decode cX10_boundOf 69 = .ok (.ireturn, 1) := by decide +kernel
theorem dX10_boundOf_70 : decode cX10_boundOf 70 = .ok (.ldc 66, 2) := by decide +kernel
theorem dX10_boundOf_72 : decode cX10_boundOf 72 = .ok (.ireturn, 1) := by decide +kernel
theorem dX10_trialOf_0 : decode cX10_trialOf 0 = .ok (.iload_n 1, 1) := by decide +kernel
theorem dX10_trialOf_1 : decode cX10_trialOf 1 = .ok (.ifCond .lt 12, 3) := by decide +kernel
theorem dX10_trialOf_4 : decode cX10_trialOf 4 = .ok (.iload_n 2, 1) := by decide +kernel
theorem dX10_trialOf_5 : decode cX10_trialOf 5 = .ok (.iconst 0, 1) := by decide +kernel
theorem dX10_trialOf_6 : decode cX10_trialOf 6 = .ok (.iconst 1, 1) := by decide +kernel
theorem dX10_trialOf_7 : decode cX10_trialOf 7 = .ok (.invokestatic 62, 3) := by decide +kernel
theorem dX10_trialOf_10 : decode cX10_trialOf 10 = .ok (.ifCond .ne 6, 3) := by decide +kernel
theorem dX10_trialOf_13 : decode cX10_trialOf 13 = .ok (.ldc 66, 2) := by decide +kernel
theorem dX10_trialOf_15 : decode cX10_trialOf 15 = .ok (.ireturn, 1) := by decide +kernel
theorem dX10_trialOf_16 : decode cX10_trialOf 16 = .ok (.aload_n 0, 1) := by decide +kernel
theorem dX10_trialOf_17 : decode cX10_trialOf 17 = .ok (.getfield 44, 3) := by decide +kernel
theorem dX10_trialOf_20 : decode cX10_trialOf 20 = .ok (.aload_n 0, 1) := by decide +kernel
theorem dX10_trialOf_21 : decode cX10_trialOf 21 = .ok (.getfield 10, 3) := by decide +kernel
theorem dX10_trialOf_24 : decode cX10_trialOf 24 = .ok (.aload_n 0, 1) := by decide +kernel
theorem dX10_trialOf_25 : decode cX10_trialOf 25 = .ok (.getfield 10, 3) := by decide +kernel
theorem dX10_trialOf_28 : decode cX10_trialOf 28 = .ok (.getfield 139, 3) := by decide +kernel
theorem dX10_trialOf_31 : decode cX10_trialOf 31 = .ok (.getfield 191, 3) := by decide +kernel
theorem dX10_trialOf_34 : decode cX10_trialOf 34 = .ok (.invokevirtual 220, 3) := by decide +kernel
theorem dX10_trialOf_37 : decode cX10_trialOf 37 = .ok (.iload_n 1, 1) := by decide +kernel
theorem dX10_trialOf_38 : decode cX10_trialOf 38 = .ok (.aload_n 0, 1) := by decide +kernel
theorem dX10_trialOf_39 : decode cX10_trialOf 39 = .ok (.getfield 44, 3) := by decide +kernel
theorem dX10_trialOf_42 : decode cX10_trialOf 42 = .ok (.getfield 224, 3) := by decide +kernel
theorem dX10_trialOf_45 : decode cX10_trialOf 45 = .ok (.if_icmp .lt 6, 3) := by decide +kernel
theorem dX10_trialOf_48 : decode cX10_trialOf 48 = .ok (.ldc 178, 2) := by decide +kernel
theorem dX10_trialOf_50 : decode cX10_trialOf 50 = .ok (.ireturn, 1) := by decide +kernel
theorem dX10_trialOf_51 : decode cX10_trialOf 51 = .ok (.iload_n 2, 1) := by decide +kernel
theorem dX10_trialOf_52 : decode cX10_trialOf 52 = .ok (.ifCond .ne 15, 3) := by decide +kernel
theorem dX10_trialOf_55 : decode cX10_trialOf 55 = .ok (.aload_n 0, 1) := by decide +kernel
theorem dX10_trialOf_56 : decode cX10_trialOf 56 = .ok (.getfield 44, 3) := by decide +kernel
theorem dX10_trialOf_59 : decode cX10_trialOf 59 = .ok (.getfield 225, 3) := by decide +kernel
theorem dX10_trialOf_62 : decode cX10_trialOf 62 = .ok (.iload_n 1, 1) := by decide +kernel
theorem dX10_trialOf_63 : decode cX10_trialOf 63 = .ok (.iaload, 1) := by decide +kernel
theorem dX10_trialOf_64 : decode cX10_trialOf 64 = .ok (.goto 14, 3) := by decide +kernel
theorem dX10_trialOf_67 : decode cX10_trialOf 67 = .ok (.aload_n 0, 1) := by decide +kernel
theorem dX10_trialOf_68 : decode cX10_trialOf 68 = .ok (.getfield 44, 3) := by decide +kernel
theorem dX10_trialOf_71 : decode cX10_trialOf 71 = .ok (.iload_n 1, 1) := by decide +kernel
theorem dX10_trialOf_72 : decode cX10_trialOf 72 = .ok (.invokevirtual 227, 3) := by decide +kernel
theorem dX10_trialOf_75 : decode cX10_trialOf 75 = .ok (.invokestatic 121, 3) := by decide +kernel
theorem dX10_trialOf_78 : decode cX10_trialOf 78 = .ok (.ireturn, 1) := by decide +kernel
theorem dX10_spans_0 : decode cX10_spans 0 = .ok (.aload_n 0, 1) := by decide +kernel
theorem dX10_spans_1 : decode cX10_spans 1 = .ok (.getfield 58, 3) := by decide +kernel
theorem dX10_spans_4 : decode cX10_spans 4 = .ok (.aload_n 0, 1) := by decide +kernel
theorem dX10_spans_5 : decode cX10_spans 5 = .ok (.getfield 10, 3) := by decide +kernel
theorem dX10_spans_8 : decode cX10_spans 8 = .ok (.getfield 125, 3) := by decide +kernel
theorem dX10_spans_11 : decode cX10_spans 11 = .ok (.aload_n 0, 1) := by decide +kernel
theorem dX10_spans_12 : decode cX10_spans 12 = .ok (.getfield 10, 3) := by decide +kernel
theorem dX10_spans_15 : decode cX10_spans 15 = .ok (.getfield 67, 3) := by decide +kernel
theorem dX10_spans_18 : decode cX10_spans 18 = .ok (.invokevirtual 230, 3) := by decide +kernel
theorem dX10_spans_21 : decode cX10_spans 21 = .ok (.invokestatic 121, 3) := by decide +kernel
theorem dX10_spans_24 : decode cX10_spans 24 = .ok (.ireturn, 1) := by decide +kernel
theorem dX10_stuck_0 : decode cX10_stuck 0 = .ok (.iload_n 1, 1) := by decide +kernel
theorem dX10_stuck_1 : decode cX10_stuck 1 = .ok (.iconst 0, 1) := by decide +kernel
theorem dX10_stuck_2 : decode cX10_stuck 2 = .ok (.iconst 4, 1) := by decide +kernel
theorem dX10_stuck_3 : decode cX10_stuck 3 = .ok (.invokestatic 62, 3) := by decide +kernel
theorem dX10_stuck_6 : decode cX10_stuck 6 = .ok (.ifCond .ne 6, 3) := by decide +kernel
theorem dX10_stuck_9 : decode cX10_stuck 9 = .ok (.ldc 66, 2) := by decide +kernel
theorem dX10_stuck_11 : decode cX10_stuck 11 = .ok (.ireturn, 1) := by decide +kernel
theorem dX10_stuck_12 : decode cX10_stuck 12 = .ok (.aload_n 0, 1) := by decide +kernel
theorem dX10_stuck_13 : decode cX10_stuck 13 = .ok (.getfield 10, 3) := by decide +kernel
theorem dX10_stuck_16 : decode cX10_stuck 16 = .ok (.invokevirtual 117, 3) := by decide +kernel
theorem dX10_stuck_19 : decode cX10_stuck 19 = .ok (.ifCond .ne 6, 3) := by decide +kernel
theorem dX10_stuck_22 : decode cX10_stuck 22 = .ok (.ldc 93, 2) := by decide +kernel
theorem dX10_stuck_24 : decode cX10_stuck 24 = .ok (.ireturn, 1) := by decide +kernel
theorem dX10_stuck_25 : decode cX10_stuck 25 = .ok (.aload_n 0, 1) := by decide +kernel
theorem dX10_stuck_26 : decode cX10_stuck 26 = .ok (.getfield 44, 3) := by decide +kernel
theorem dX10_stuck_29 : decode cX10_stuck 29 = .ok (.aload_n 0, 1) := by decide +kernel
theorem dX10_stuck_30 : decode cX10_stuck 30 = .ok (.getfield 10, 3) := by decide +kernel
theorem dX10_stuck_33 : decode cX10_stuck 33 = .ok (.iconst 1, 1) := by decide +kernel
theorem dX10_stuck_34 : decode cX10_stuck 34 = .ok (.iload_n 1, 1) := by decide +kernel
theorem dX10_stuck_35 : decode cX10_stuck 35 = .ok (.ishl, 1) := by decide +kernel
theorem dX10_stuck_36 : decode cX10_stuck 36 = .ok (.invokevirtual 220, 3) := by decide +kernel
theorem dX10_stuck_39 : decode cX10_stuck 39 = .ok (.aload_n 0, 1) := by decide +kernel
theorem dX10_stuck_40 : decode cX10_stuck 40 = .ok (.getfield 44, 3) := by decide +kernel
theorem dX10_stuck_43 : decode cX10_stuck 43 = .ok (.invokevirtual 234, 3) := by decide +kernel
theorem dX10_stuck_46 : decode cX10_stuck 46 = .ok (.invokestatic 121, 3) := by decide +kernel
theorem dX10_stuck_49 : decode cX10_stuck 49 = .ok (.ireturn, 1) := by decide +kernel
theorem dX10_around_0 : decode cX10_around 0 = .ok (.iload_n 1, 1) := by decide +kernel
theorem dX10_around_1 : decode cX10_around 1 = .ok (.iconst 0, 1) := by decide +kernel
theorem dX10_around_2 : decode cX10_around 2 = .ok (.iconst 3, 1) := by decide +kernel
theorem dX10_around_3 : decode cX10_around 3 = .ok (.invokestatic 62, 3) := by decide +kernel
theorem dX10_around_6 : decode cX10_around 6 = .ok (.ifCond .eq 12, 3) := by decide +kernel
theorem dX10_around_9 : decode cX10_around 9 = .ok (.iload_n 2, 1) := by decide +kernel
theorem dX10_around_10 : decode cX10_around 10 = .ok (.iconst 0, 1) := by decide +kernel
theorem dX10_around_11 : decode cX10_around 11 = .ok (.iconst 2, 1) := by decide +kernel
theorem dX10_around_12 : decode cX10_around 12 = .ok (.invokestatic 62, 3) := by decide +kernel
theorem dX10_around_15 : decode cX10_around 15 = .ok (.ifCond .ne 6, 3) := by decide +kernel
theorem dX10_around_18 : decode cX10_around 18 = .ok (.ldc 66, 2) := by decide +kernel
theorem dX10_around_20 : decode cX10_around 20 = .ok (.ireturn, 1) := by decide +kernel
theorem dX10_around_21 : decode cX10_around 21 = .ok (.aload_n 0, 1) := by decide +kernel
theorem dX10_around_22 : decode cX10_around 22 = .ok (.getfield 10, 3) := by decide +kernel
theorem dX10_around_25 : decode cX10_around 25 = .ok (.invokevirtual 117, 3) := by decide +kernel
theorem dX10_around_28 : decode cX10_around 28 = .ok (.ifCond .ne 6, 3) := by decide +kernel
theorem dX10_around_31 : decode cX10_around 31 = .ok (.ldc 93, 2) := by decide +kernel
theorem dX10_around_33 : decode cX10_around 33 = .ok (.ireturn, 1) := by decide +kernel
theorem dX10_around_34 : decode cX10_around 34 = .ok (.aload_n 0, 1) := by decide +kernel
theorem dX10_around_35 : decode cX10_around 35 = .ok (.getfield 51, 3) := by decide +kernel
theorem dX10_around_38 : decode cX10_around 38 = .ok (.aload_n 0, 1) := by decide +kernel
theorem dX10_around_39 : decode cX10_around 39 = .ok (.getfield 10, 3) := by decide +kernel
theorem dX10_around_42 : decode cX10_around 42 = .ok (.iload_n 1, 1) := by decide +kernel
theorem dX10_around_43 : decode cX10_around 43 = .ok (.invokevirtual 237, 3) := by decide +kernel
theorem dX10_around_46 : decode cX10_around 46 = .ok (.aload_n 0, 1) := by decide +kernel
theorem dX10_around_47 : decode cX10_around 47 = .ok (.getfield 51, 3) := by decide +kernel
theorem dX10_around_50 : decode cX10_around 50 = .ok (.getfield 240, 3) := by decide +kernel
theorem dX10_around_53 : decode cX10_around 53 = .ok (.iload_n 2, 1) := by decide +kernel
theorem dX10_around_54 : decode cX10_around 54 = .ok (.iaload, 1) := by decide +kernel
theorem dX10_around_55 : decode cX10_around 55 = .ok (.ireturn, 1) := by decide +kernel
theorem dX10_keep_0 : decode cX10_keep 0 = .ok (.aload_n 0, 1) := by decide +kernel
theorem dX10_keep_1 : decode cX10_keep 1 = .ok (.getfield 27, 3) := by decide +kernel
theorem dX10_keep_4 : decode cX10_keep 4 = .ok (.aload_n 0, 1) := by decide +kernel
theorem dX10_keep_5 : decode cX10_keep 5 = .ok (.getfield 10, 3) := by decide +kernel
theorem dX10_keep_8 : decode cX10_keep 8 = .ok (.invokevirtual 243, 3) := by decide +kernel
theorem dX10_keep_11 : decode cX10_keep 11 = .ok (.aload_n 0, 1) := by decide +kernel
theorem dX10_keep_12 : decode cX10_keep 12 = .ok (.iconst 1, 1) := by decide +kernel
theorem dX10_keep_13 : decode cX10_keep 13 = .ok (.putfield 30, 3) := by decide +kernel
theorem dX10_keep_16 : decode cX10_keep 16 = .ok (.aload_n 0, 1) := by decide +kernel
theorem dX10_keep_17 : decode cX10_keep 17 = .ok (.getfield 10, 3) := by decide +kernel
theorem dX10_keep_20 : decode cX10_keep 20 = .ok (.getfield 79, 3) := by decide +kernel
theorem dX10_keep_23 : decode cX10_keep 23 = .ok (.getfield 83, 3) := by decide +kernel
theorem dX10_keep_26 : decode cX10_keep 26 = .ok (.ireturn, 1) := by decide +kernel
theorem dX10_restore_0 : decode cX10_restore 0 = .ok (.aload_n 0, 1) := by decide +kernel
theorem dX10_restore_1 : decode cX10_restore 1 = .ok (.getfield 30, 3) := by decide +kernel
theorem dX10_restore_4 : decode cX10_restore 4 = .ok (.ifCond .ne 6, 3) := by decide +kernel
theorem dX10_restore_7 : decode cX10_restore 7 = .ok (.ldc 93, 2) := by decide +kernel
theorem dX10_restore_9 : decode cX10_restore 9 = .ok (.ireturn, 1) := by decide +kernel
theorem dX10_restore_10 : decode cX10_restore 10 = .ok (.aload_n 0, 1) := by decide +kernel
theorem dX10_restore_11 : decode cX10_restore 11 = .ok (.getfield 23, 3) := by decide +kernel
theorem dX10_restore_14 : decode cX10_restore 14 = .ok (.aload_n 0, 1) := by decide +kernel
theorem dX10_restore_15 : decode cX10_restore 15 = .ok (.getfield 10, 3) := by decide +kernel
theorem dX10_restore_18 : decode cX10_restore 18 = .ok (.invokevirtual 71, 3) := by decide +kernel
theorem dX10_restore_21 : decode cX10_restore 21 = .ok (.aload_n 0, 1) := by decide +kernel
theorem dX10_restore_22 : decode cX10_restore 22 = .ok (.getfield 10, 3) := by decide +kernel
theorem dX10_restore_25 : decode cX10_restore 25 = .ok (.aload_n 0, 1) := by decide +kernel
theorem dX10_restore_26 : decode cX10_restore 26 = .ok (.getfield 27, 3) := by decide +kernel
theorem dX10_restore_29 : decode cX10_restore 29 = .ok (.invokevirtual 243, 3) := by decide +kernel
theorem dX10_restore_32 : decode cX10_restore 32 = .ok (.aload_n 0, 1) := by decide +kernel
theorem dX10_restore_33 : decode cX10_restore 33 = .ok (.getfield 10, 3) := by decide +kernel
theorem dX10_restore_36 : decode cX10_restore 36 = .ok (.getfield 79, 3) := by decide +kernel
theorem dX10_restore_39 : decode cX10_restore 39 = .ok (.getfield 83, 3) := by decide +kernel
theorem dX10_restore_42 : decode cX10_restore 42 = .ok (.ireturn, 1) := by decide +kernel
theorem dX10_undo_0 : decode cX10_undo 0 = .ok (.aload_n 0, 1) := by decide +kernel
theorem dX10_undo_1 : decode cX10_undo 1 = .ok (.getfield 23, 3) := by decide +kernel
theorem dX10_undo_4 : decode cX10_undo 4 = .ok (.getfield 212, 3) := by decide +kernel
theorem dX10_undo_7 : decode cX10_undo 7 = .ok (.ifCond .ne 6, 3) := by decide +kernel
theorem dX10_undo_10 : decode cX10_undo 10 = .ok (.ldc 93, 2) := by decide +kernel
theorem dX10_undo_12 : decode cX10_undo 12 = .ok (.ireturn, 1) := by decide +kernel
theorem dX10_undo_13 : decode cX10_undo 13 = .ok (.aload_n 0, 1) := by decide +kernel
theorem dX10_undo_14 : decode cX10_undo 14 = .ok (.getfield 23, 3) := by decide +kernel
theorem dX10_undo_17 : decode cX10_undo 17 = .ok (.aload_n 0, 1) := by decide +kernel
theorem dX10_undo_18 : decode cX10_undo 18 = .ok (.getfield 10, 3) := by decide +kernel
theorem dX10_undo_21 : decode cX10_undo 21 = .ok (.invokevirtual 246, 3) := by decide +kernel
theorem dX10_undo_24 : decode cX10_undo 24 = .ok (.aload_n 0, 1) := by decide +kernel
theorem dX10_undo_25 : decode cX10_undo 25 = .ok (.getfield 23, 3) := by decide +kernel
theorem dX10_undo_28 : decode cX10_undo 28 = .ok (.getfield 212, 3) := by decide +kernel
theorem dX10_undo_31 : decode cX10_undo 31 = .ok (.ireturn, 1) := by decide +kernel
theorem dX10_type_0 : decode cX10_type 0 = .ok (.iload_n 1, 1) := by decide +kernel
theorem dX10_type_1 : decode cX10_type 1 = .ok (.bipush 32, 2) := by decide +kernel
theorem dX10_type_3 : decode cX10_type 3 = .ok (.bipush 126, 2) := by decide +kernel
theorem dX10_type_5 : decode cX10_type 5 = .ok (.invokestatic 62, 3) := by decide +kernel
theorem dX10_type_8 : decode cX10_type 8 = .ok (.ifCond .ne 6, 3) := by decide +kernel
theorem dX10_type_11 : decode cX10_type 11 = .ok (.ldc 66, 2) := by decide +kernel
theorem dX10_type_13 : decode cX10_type 13 = .ok (.ireturn, 1) := by decide +kernel
theorem dX10_type_14 : decode cX10_type 14 = .ok (.aload_n 0, 1) := by decide +kernel
theorem dX10_type_15 : decode cX10_type 15 = .ok (.getfield 37, 3) := by decide +kernel
theorem dX10_type_18 : decode cX10_type 18 = .ok (.getfield 213, 3) := by decide +kernel
theorem dX10_type_21 : decode cX10_type 21 = .ok (.bipush 60, 2) := by decide +kernel
theorem dX10_type_23 : decode cX10_type 23 = .ok (.if_icmp .lt 6, 3) := by decide +kernel
theorem dX10_type_26 : decode cX10_type 26 = .ok (.ldc 88, 2) := by decide +kernel
theorem dX10_type_28 : decode cX10_type 28 = .ok (.ireturn, 1) := by decide +kernel
theorem dX10_type_29 : decode cX10_type 29 = .ok (.aload_n 0, 1) := by decide +kernel
theorem dX10_type_30 : decode cX10_type 30 = .ok (.getfield 37, 3) := by decide +kernel
theorem dX10_type_33 : decode cX10_type 33 = .ok (.iload_n 1, 1) := by decide +kernel
theorem dX10_type_34 : decode cX10_type 34 = .ok (.invokevirtual 249, 3) := by decide +kernel
theorem dX10_type_37 : decode cX10_type 37 = .ok (.aload_n 0, 1) := by decide +kernel
theorem dX10_type_38 : decode cX10_type 38 = .ok (.getfield 37, 3) := by decide +kernel
theorem dX10_type_41 : decode cX10_type 41 = .ok (.getfield 213, 3) := by decide +kernel
theorem dX10_type_44 : decode cX10_type 44 = .ok (.ireturn, 1) := by decide +kernel
theorem dX10_clearText_0 : decode cX10_clearText 0 = .ok (.aload_n 0, 1) := by decide +kernel
theorem dX10_clearText_1 : decode cX10_clearText 1 = .ok (.getfield 37, 3) := by decide +kernel
theorem dX10_clearText_4 : decode cX10_clearText 4 = .ok (.getfield 213, 3) := by decide +kernel
theorem dX10_clearText_7 : decode cX10_clearText 7 = .ok (.istore_n 1, 1) := by decide +kernel
theorem dX10_clearText_8 : decode cX10_clearText 8 = .ok (.aload_n 0, 1) := by decide +kernel
theorem dX10_clearText_9 : decode cX10_clearText 9 = .ok (.getfield 37, 3) := by decide +kernel
theorem dX10_clearText_12 : decode cX10_clearText 12 = .ok (.iconst 0, 1) := by decide +kernel
theorem dX10_clearText_13 : decode cX10_clearText 13 = .ok (.putfield 213, 3) := by decide +kernel
theorem dX10_clearText_16 : decode cX10_clearText 16 = .ok (.iload_n 1, 1) := by decide +kernel
theorem dX10_clearText_17 : decode cX10_clearText 17 = .ok (.ireturn, 1) := by decide +kernel
theorem dX10_fault_0 : decode cX10_fault 0 = .ok (.iload_n 1, 1) := by decide +kernel
theorem dX10_fault_1 : decode cX10_fault 1 = .ok (.iconst 0, 1) := by decide +kernel
theorem dX10_fault_2 : decode cX10_fault 2 = .ok (.iconst 1, 1) := by decide +kernel
theorem dX10_fault_3 : decode cX10_fault 3 = .ok (.invokestatic 62, 3) := by decide +kernel
theorem dX10_fault_6 : decode cX10_fault 6 = .ok (.ifCond .ne 6, 3) := by decide +kernel
theorem dX10_fault_9 : decode cX10_fault 9 = .ok (.ldc 66, 2) := by decide +kernel
theorem dX10_fault_11 : decode cX10_fault 11 = .ok (.ireturn, 1) := by decide +kernel
theorem dX10_fault_12 : decode cX10_fault 12 = .ok (.aload_n 0, 1) := by decide +kernel
theorem dX10_fault_13 : decode cX10_fault 13 = .ok (.getfield 37, 3) := by decide +kernel
theorem dX10_fault_16 : decode cX10_fault 16 = .ok (.aload_n 0, 1) := by decide +kernel
theorem dX10_fault_17 : decode cX10_fault 17 = .ok (.getfield 10, 3) := by decide +kernel
theorem dX10_fault_20 : decode cX10_fault 20 = .ok (.getfield 67, 3) := by decide +kernel
theorem dX10_fault_23 : decode cX10_fault 23 = .ok (.invokevirtual 252, 3) := by decide +kernel
theorem dX10_fault_26 : decode cX10_fault 26 = .ok (.ifCond .eq 6, 3) := by decide +kernel
theorem dX10_fault_29 : decode cX10_fault 29 = .ok (.ldc 178, 2) := by decide +kernel
theorem dX10_fault_31 : decode cX10_fault 31 = .ok (.ireturn, 1) := by decide +kernel
theorem dX10_fault_32 : decode cX10_fault 32 = .ok (.iload_n 1, 1) := by decide +kernel
theorem dX10_fault_33 : decode cX10_fault 33 = .ok (.ifCond .ne 13, 3) := by decide +kernel
theorem dX10_fault_36 : decode cX10_fault 36 = .ok (.aload_n 0, 1) := by decide +kernel
theorem dX10_fault_37 : decode cX10_fault 37 = .ok (.getfield 37, 3) := by decide +kernel
theorem dX10_fault_40 : decode cX10_fault 40 = .ok (.getfield 255, 3) := by decide +kernel
theorem dX10_fault_43 : decode cX10_fault 43 = .ok (.goto 10, 3) := by decide +kernel
theorem dX10_fault_46 : decode cX10_fault 46 = .ok (.aload_n 0, 1) := by decide +kernel
theorem dX10_fault_47 : decode cX10_fault 47 = .ok (.getfield 37, 3) := by decide +kernel
theorem dX10_fault_50 : decode cX10_fault 50 = .ok (.getfield 258, 3) := by decide +kernel
theorem dX10_fault_53 : decode cX10_fault 53 = .ok (.ireturn, 1) := by decide +kernel
theorem dX10_read_0 : decode cX10_read 0 = .ok (.aload_n 0, 1) := by decide +kernel
theorem dX10_read_1 : decode cX10_read 1 = .ok (.getfield 37, 3) := by decide +kernel
theorem dX10_read_4 : decode cX10_read 4 = .ok (.aload_n 0, 1) := by decide +kernel
theorem dX10_read_5 : decode cX10_read 5 = .ok (.getfield 10, 3) := by decide +kernel
theorem dX10_read_8 : decode cX10_read 8 = .ok (.getfield 67, 3) := by decide +kernel
theorem dX10_read_11 : decode cX10_read 11 = .ok (.invokevirtual 252, 3) := by decide +kernel
theorem dX10_read_14 : decode cX10_read 14 = .ok (.ifCond .ne 6, 3) := by decide +kernel
theorem dX10_read_17 : decode cX10_read 17 = .ok (.ldc 93, 2) := by decide +kernel
theorem dX10_read_19 : decode cX10_read 19 = .ok (.ireturn, 1) := by decide +kernel
theorem dX10_read_20 : decode cX10_read 20 = .ok (.aload_n 0, 1) := by decide +kernel
theorem dX10_read_21 : decode cX10_read 21 = .ok (.getfield 23, 3) := by decide +kernel
theorem dX10_read_24 : decode cX10_read 24 = .ok (.aload_n 0, 1) := by decide +kernel
theorem dX10_read_25 : decode cX10_read 25 = .ok (.getfield 10, 3) := by decide +kernel
theorem dX10_read_28 : decode cX10_read 28 = .ok (.invokevirtual 71, 3) := by decide +kernel
theorem dX10_read_31 : decode cX10_read 31 = .ok (.aload_n 0, 1) := by decide +kernel
theorem dX10_read_32 : decode cX10_read 32 = .ok (.getfield 10, 3) := by decide +kernel
theorem dX10_read_35 : decode cX10_read 35 = .ok (.getfield 79, 3) := by decide +kernel
theorem dX10_read_38 : decode cX10_read 38 = .ok (.aload_n 0, 1) := by decide +kernel
theorem dX10_read_39 : decode cX10_read 39 = .ok (.getfield 37, 3) := by decide +kernel
theorem dX10_read_42 : decode cX10_read 42 = .ok (.getfield 261, 3) := by decide +kernel
theorem dX10_read_45 : decode cX10_read 45 = .ok (.invokevirtual 264, 3) := by decide +kernel
theorem dX10_read_48 : decode cX10_read 48 = .ok (.aload_n 0, 1) := by decide +kernel
theorem dX10_read_49 : decode cX10_read 49 = .ok (.getfield 10, 3) := by decide +kernel
theorem dX10_read_52 : decode cX10_read 52 = .ok (.getfield 79, 3) := by decide +kernel
theorem dX10_read_55 : decode cX10_read 55 = .ok (.getfield 83, 3) := by decide +kernel
theorem dX10_read_58 : decode cX10_read 58 = .ok (.ireturn, 1) := by decide +kernel
theorem dX10_within_0 : decode cX10_within 0 = .ok (.iload_n 1, 1) := by decide +kernel
theorem dX10_within_1 : decode cX10_within 1 = .ok (.iload_n 0, 1) := by decide +kernel
theorem dX10_within_2 : decode cX10_within 2 = .ok (.if_icmp .gt 12, 3) := by decide +kernel
theorem dX10_within_5 : decode cX10_within 5 = .ok (.iload_n 0, 1) := by decide +kernel
theorem dX10_within_6 : decode cX10_within 6 = .ok (.iload_n 2, 1) := by decide +kernel
theorem dX10_within_7 : decode cX10_within 7 = .ok (.if_icmp .gt 7, 3) := by decide +kernel
theorem dX10_within_10 : decode cX10_within 10 = .ok (.iconst 1, 1) := by decide +kernel
theorem dX10_within_11 : decode cX10_within 11 = .ok (.goto 4, 3) := by decide +kernel
theorem dX10_within_14 : decode cX10_within 14 = .ok (.iconst 0, 1) := by decide +kernel
theorem dX10_within_15 : decode cX10_within 15 = .ok (.ireturn, 1) := by decide +kernel
theorem dX10_oneIf_0 : decode cX10_oneIf 0 = .ok (.iload_n 0, 1) := by decide +kernel
theorem dX10_oneIf_1 : decode cX10_oneIf 1 = .ok (.ifCond .eq 7, 3) := by decide +kernel
theorem dX10_oneIf_4 : decode cX10_oneIf 4 = .ok (.iconst 1, 1) := by decide +kernel
theorem dX10_oneIf_5 : decode cX10_oneIf 5 = .ok (.goto 4, 3) := by decide +kernel
theorem dX10_oneIf_8 : decode cX10_oneIf 8 = .ok (.iconst 0, 1) := by decide +kernel
theorem dX10_oneIf_9 : decode cX10_oneIf 9 = .ok (.ireturn, 1) := by decide +kernel
theorem dX10_closeGap_0 : decode cX10_closeGap 0 = .ok (.iload_n 1, 1) := by decide +kernel
theorem dX10_closeGap_1 : decode cX10_closeGap 1 = .ok (.iload_n 2, 1) := by decide +kernel
theorem dX10_closeGap_2 : decode cX10_closeGap 2 = .ok (.imul, 1) := by decide +kernel
theorem dX10_closeGap_3 : decode cX10_closeGap 3 = .ok (.istore 4, 2) := by decide +kernel
theorem dX10_closeGap_5 : decode cX10_closeGap 5 = .ok (.iload 4, 2) := by decide +kernel
theorem dX10_closeGap_7 : decode cX10_closeGap 7 = .ok (.iload_n 1, 1) := by decide +kernel
theorem dX10_closeGap_8 : decode cX10_closeGap 8 = .ok (.iadd, 1) := by decide +kernel
theorem dX10_closeGap_9 : decode cX10_closeGap 9 = .ok (.iload_n 1, 1) := by decide +kernel
theorem dX10_closeGap_10 : decode cX10_closeGap 10 = .ok (.iload_n 3, 1) := by decide +kernel
theorem dX10_closeGap_11 : decode cX10_closeGap 11 = .ok (.imul, 1) := by decide +kernel
theorem dX10_closeGap_12 : decode cX10_closeGap 12 = .ok (.if_icmp .ge 19, 3) := by decide +kernel
theorem dX10_closeGap_15 : decode cX10_closeGap 15 = .ok (.aload_n 0, 1) := by decide +kernel
theorem dX10_closeGap_16 : decode cX10_closeGap 16 = .ok (.iload 4, 2) := by decide +kernel
theorem dX10_closeGap_18 : decode cX10_closeGap 18 = .ok (.aload_n 0, 1) := by decide +kernel
theorem dX10_closeGap_19 : decode cX10_closeGap 19 = .ok (.iload 4, 2) := by decide +kernel
theorem dX10_closeGap_21 : decode cX10_closeGap 21 = .ok (.iload_n 1, 1) := by decide +kernel
theorem dX10_closeGap_22 : decode cX10_closeGap 22 = .ok (.iadd, 1) := by decide +kernel
theorem dX10_closeGap_23 : decode cX10_closeGap 23 = .ok (.iaload, 1) := by decide +kernel
theorem dX10_closeGap_24 : decode cX10_closeGap 24 = .ok (.iastore, 1) := by decide +kernel
theorem dX10_closeGap_25 : decode cX10_closeGap 25 = .ok (.iinc 4 1, 3) := by decide +kernel
theorem dX10_closeGap_28 : decode cX10_closeGap 28 = .ok (.goto (-23), 3) := by decide +kernel
theorem dX10_closeGap_31 : decode cX10_closeGap 31 = .ok (.return_, 1) := by decide +kernel
theorem dX11_init_0 : decode cX11_init 0 = .ok (.aload_n 0, 1) := by decide +kernel
theorem dX11_init_1 : decode cX11_init 1 = .ok (.invokespecial 1, 3) := by decide +kernel
theorem dX11_init_4 : decode cX11_init 4 = .ok (.aload_n 0, 1) := by decide +kernel
theorem dX11_init_5 : decode cX11_init 5 = .ok (.bipush 111, 2) := by decide +kernel
theorem dX11_init_7 : decode cX11_init 7 = .ok (.newarray .int, 2) := by decide +kernel
theorem dX11_init_9 : decode cX11_init 9 = .ok (.putfield 7, 3) := by decide +kernel
theorem dX11_init_12 : decode cX11_init 12 = .ok (.aload_n 0, 1) := by decide +kernel
theorem dX11_init_13 : decode cX11_init 13 = .ok (.sipush 444, 3) := by decide +kernel
theorem dX11_init_16 : decode cX11_init 16 = .ok (.newarray .int, 2) := by decide +kernel
theorem dX11_init_18 : decode cX11_init 18 = .ok (.putfield 13, 3) := by decide +kernel
theorem dX11_init_21 : decode cX11_init 21 = .ok (.aload_n 0, 1) := by decide +kernel
theorem dX11_init_22 : decode cX11_init 22 = .ok (.bipush 111, 2) := by decide +kernel
theorem dX11_init_24 : decode cX11_init 24 = .ok (.newarray .int, 2) := by decide +kernel
theorem dX11_init_26 : decode cX11_init 26 = .ok (.putfield 16, 3) := by decide +kernel
theorem dX11_init_29 : decode cX11_init 29 = .ok (.aload_n 0, 1) := by decide +kernel
theorem dX11_init_30 : decode cX11_init 30 = .ok (.bipush 60, 2) := by decide +kernel
theorem dX11_init_32 : decode cX11_init 32 = .ok (.newarray .char, 2) := by decide +kernel
theorem dX11_init_34 : decode cX11_init 34 = .ok (.putfield 19, 3) := by decide +kernel
theorem dX11_init_37 : decode cX11_init 37 = .ok (.aload_n 0, 1) := by decide +kernel
theorem dX11_init_38 : decode cX11_init 38 = .ok (.bipush 8, 2) := by decide +kernel
theorem dX11_init_40 : decode cX11_init 40 = .ok (.newarray .int, 2) := by decide +kernel
theorem dX11_init_42 : decode cX11_init 42 = .ok (.putfield 23, 3) := by decide +kernel
theorem dX11_init_45 : decode cX11_init 45 = .ok (.aload_n 0, 1) := by decide +kernel
theorem dX11_init_46 : decode cX11_init 46 = .ok (.iconst 3, 1) := by decide +kernel
theorem dX11_init_47 : decode cX11_init 47 = .ok (.newarray .int, 2) := by decide +kernel
theorem dX11_init_49 : decode cX11_init 49 = .ok (.putfield 26, 3) := by decide +kernel
theorem dX11_init_52 : decode cX11_init 52 = .ok (.aload_n 0, 1) := by decide +kernel
theorem dX11_init_53 : decode cX11_init 53 = .ok (.bipush 40, 2) := by decide +kernel
theorem dX11_init_55 : decode cX11_init 55 = .ok (.newarray .int, 2) := by decide +kernel
theorem dX11_init_57 : decode cX11_init 57 = .ok (.putfield 29, 3) := by decide +kernel
theorem dX11_init_60 : decode cX11_init 60 = .ok (.aload_n 0, 1) := by decide +kernel
theorem dX11_init_61 : decode cX11_init 61 = .ok (.iconst 2, 1) := by decide +kernel
theorem dX11_init_62 : decode cX11_init 62 = .ok (.invokevirtual 32, 3) := by decide +kernel
theorem dX11_init_65 : decode cX11_init 65 = .ok (.return_, 1) := by decide +kernel
theorem dX11_in_0 : decode cX11_in 0 = .ok (.iload_n 0, 1) := by decide +kernel
theorem dX11_in_1 : decode cX11_in 1 = .ok (.iload_n 1, 1) := by decide +kernel
theorem dX11_in_2 : decode cX11_in 2 = .ok (.if_icmp .lt 12, 3) := by decide +kernel
theorem dX11_in_5 : decode cX11_in 5 = .ok (.iload_n 0, 1) := by decide +kernel
theorem dX11_in_6 : decode cX11_in 6 = .ok (.iload_n 2, 1) := by decide +kernel
theorem dX11_in_7 : decode cX11_in 7 = .ok (.if_icmp .gt 7, 3) := by decide +kernel
theorem dX11_in_10 : decode cX11_in 10 = .ok (.iconst 1, 1) := by decide +kernel
theorem dX11_in_11 : decode cX11_in 11 = .ok (.goto 4, 3) := by decide +kernel
theorem dX11_in_14 : decode cX11_in 14 = .ok (.iconst 0, 1) := by decide +kernel
theorem dX11_in_15 : decode cX11_in 15 = .ok (.ireturn, 1) := by decide +kernel
theorem dX11_begin_0 : decode cX11_begin 0 = .ok (.iconst 0, 1) := by decide +kernel
theorem dX11_begin_1 : decode cX11_begin 1 = .ok (.istore_n 2, 1) := by decide +kernel
theorem dX11_begin_2 : decode cX11_begin 2 = .ok (.iload_n 2, 1) := by decide +kernel
theorem dX11_begin_3 : decode cX11_begin 3 = .ok (.bipush 111, 2) := by decide +kernel
theorem dX11_begin_5 : decode cX11_begin 5 = .ok (.if_icmp .ge 16, 3) := by decide +kernel
theorem dX11_begin_8 : decode cX11_begin 8 = .ok (.aload_n 0, 1) := by decide +kernel
theorem dX11_begin_9 : decode cX11_begin 9 = .ok (.getfield 7, 3) := by decide +kernel
theorem dX11_begin_12 : decode cX11_begin 12 = .ok (.iload_n 2, 1) := by decide +kernel
theorem dX11_begin_13 : decode cX11_begin 13 = .ok (.iconst 0, 1) := by decide +kernel
theorem dX11_begin_14 : decode cX11_begin 14 = .ok (.iastore, 1) := by decide +kernel
theorem dX11_begin_15 : decode cX11_begin 15 = .ok (.iinc 2 1, 3) := by decide +kernel
theorem dX11_begin_18 : decode cX11_begin 18 = .ok (.goto (-16), 3) := by decide +kernel
theorem dX11_begin_21 : decode cX11_begin 21 = .ok (.aload_n 0, 1) := by decide +kernel
theorem dX11_begin_22 : decode cX11_begin 22 = .ok (.getfield 7, 3) := by decide +kernel
theorem dX11_begin_25 : decode cX11_begin 25 = .ok (.iconst 0, 1) := by decide +kernel
theorem dX11_begin_26 : decode cX11_begin 26 = .ok (.iload_n 1, 1) := by decide +kernel
theorem dX11_begin_27 : decode cX11_begin 27 = .ok (.iastore, 1) := by decide +kernel
theorem dX11_begin_28 : decode cX11_begin 28 = .ok (.aload_n 0, 1) := by decide +kernel
theorem dX11_begin_29 : decode cX11_begin 29 = .ok (.getfield 7, 3) := by decide +kernel
theorem dX11_begin_32 : decode cX11_begin 32 = .ok (.iconst 3, 1) := by decide +kernel
theorem dX11_begin_33 : decode cX11_begin 33 = .ok (.iconst 2, 1) := by decide +kernel
theorem dX11_begin_34 : decode cX11_begin 34 = .ok (.iastore, 1) := by decide +kernel
theorem dX11_begin_35 : decode cX11_begin 35 = .ok (.aload_n 0, 1) := by decide +kernel
theorem dX11_begin_36 : decode cX11_begin 36 = .ok (.getfield 7, 3) := by decide +kernel
theorem dX11_begin_39 : decode cX11_begin 39 = .ok (.bipush 9, 2) := by decide +kernel
theorem dX11_begin_41 : decode cX11_begin 41 = .ok (.iconst (-1), 1) := by decide +kernel
theorem dX11_begin_42 : decode cX11_begin 42 = .ok (.iastore, 1) := by decide +kernel
theorem dX11_begin_43 : decode cX11_begin 43 = .ok (.iconst 0, 1) := by decide +kernel
theorem dX11_begin_44 : decode cX11_begin 44 = .ok (.istore_n 2, 1) := by decide +kernel
theorem dX11_begin_45 : decode cX11_begin 45 = .ok (.iload_n 2, 1) := by decide +kernel
theorem dX11_begin_46 : decode cX11_begin 46 = .ok (.iconst 3, 1) := by decide +kernel
theorem dX11_begin_47 : decode cX11_begin 47 = .ok (.if_icmp .ge 31, 3) := by decide +kernel
theorem dX11_begin_50 : decode cX11_begin 50 = .ok (.aload_n 0, 1) := by decide +kernel
theorem dX11_begin_51 : decode cX11_begin 51 = .ok (.getfield 7, 3) := by decide +kernel
theorem dX11_begin_54 : decode cX11_begin 54 = .ok (.bipush 12, 2) := by decide +kernel
theorem dX11_begin_56 : decode cX11_begin 56 = .ok (.iload_n 2, 1) := by decide +kernel
theorem dX11_begin_57 : decode cX11_begin 57 = .ok (.iadd, 1) := by decide +kernel
theorem dX11_begin_58 : decode cX11_begin 58 = .ok (.bipush (-50), 2) := by decide +kernel
theorem dX11_begin_60 : decode cX11_begin 60 = .ok (.iastore, 1) := by decide +kernel
theorem dX11_begin_61 : decode cX11_begin 61 = .ok (.aload_n 0, 1) := by decide +kernel
theorem dX11_begin_62 : decode cX11_begin 62 = .ok (.getfield 7, 3) := by decide +kernel
theorem dX11_begin_65 : decode cX11_begin 65 = .ok (.bipush 15, 2) := by decide +kernel
theorem dX11_begin_67 : decode cX11_begin 67 = .ok (.iload_n 2, 1) := by decide +kernel
theorem dX11_begin_68 : decode cX11_begin 68 = .ok (.iadd, 1) := by decide +kernel
theorem dX11_begin_69 : decode cX11_begin 69 = .ok (.bipush 50, 2) := by decide +kernel
theorem dX11_begin_71 : decode cX11_begin 71 = .ok (.iastore, 1) := by decide +kernel
theorem dX11_begin_72 : decode cX11_begin 72 = .ok (.iinc 2 1, 3) := by decide +kernel
theorem dX11_begin_75 : decode cX11_begin 75 = .ok (.goto (-30), 3) := by decide +kernel
theorem dX11_begin_78 : decode cX11_begin 78 = .ok (.iconst 0, 1) := by decide +kernel
theorem dX11_begin_79 : decode cX11_begin 79 = .ok (.istore_n 2, 1) := by decide +kernel
theorem dX11_begin_80 : decode cX11_begin 80 = .ok (.iload_n 2, 1) := by decide +kernel
theorem dX11_begin_81 : decode cX11_begin 81 = .ok (.iload_n 1, 1) := by decide +kernel
theorem dX11_begin_82 : decode cX11_begin 82 = .ok (.if_icmp .ge 41, 3) := by decide +kernel
theorem dX11_begin_85 : decode cX11_begin 85 = .ok (.aload_n 0, 1) := by decide +kernel
theorem dX11_begin_86 : decode cX11_begin 86 = .ok (.getfield 7, 3) := by decide +kernel
theorem dX11_begin_89 : decode cX11_begin 89 = .ok (.bipush 61, 2) := by decide +kernel
theorem dX11_begin_91 : decode cX11_begin 91 = .ok (.bipush 8, 2) := by decide +kernel
theorem dX11_begin_93 : decode cX11_begin 93 = .ok (.iload_n 2, 1) := by decide +kernel
theorem dX11_begin_94 : decode cX11_begin 94 = .ok (.imul, 1) := by decide +kernel
theorem dX11_begin_95 : decode cX11_begin 95 = .ok (.iadd, 1) := by decide +kernel
theorem dX11_begin_96 : decode cX11_begin 96 = .ok (.iload_n 2, 1) := by decide +kernel
theorem dX11_begin_97 : decode cX11_begin 97 = .ok (.iadd, 1) := by decide +kernel
theorem dX11_begin_98 : decode cX11_begin 98 = .ok (.iconst 1, 1) := by decide +kernel
theorem dX11_begin_99 : decode cX11_begin 99 = .ok (.iastore, 1) := by decide +kernel
theorem dX11_begin_100 : decode cX11_begin 100 = .ok (.aload_n 0, 1) := by decide +kernel
theorem dX11_begin_101 : decode cX11_begin 101 = .ok (.getfield 7, 3) := by decide +kernel
theorem dX11_begin_104 : decode cX11_begin 104 = .ok (.bipush 61, 2) := by decide +kernel
theorem dX11_begin_106 : decode cX11_begin 106 = .ok (.bipush 8, 2) := by decide +kernel
theorem dX11_begin_108 : decode cX11_begin 108 = .ok (.iload_n 2, 1) := by decide +kernel
theorem dX11_begin_109 : decode cX11_begin 109 = .ok (.imul, 1) := by decide +kernel
theorem dX11_begin_110 : decode cX11_begin 110 = .ok (.iadd, 1) := by decide +kernel
theorem dX11_begin_111 : decode cX11_begin 111 = .ok (.iconst 4, 1) := by decide +kernel
theorem dX11_begin_112 : decode cX11_begin 112 = .ok (.iadd, 1) := by decide +kernel
theorem dX11_begin_113 : decode cX11_begin 113 = .ok (.iload_n 2, 1) := by decide +kernel
theorem dX11_begin_114 : decode cX11_begin 114 = .ok (.iadd, 1) := by decide +kernel
theorem dX11_begin_115 : decode cX11_begin 115 = .ok (.iconst (-1), 1) := by decide +kernel
theorem dX11_begin_116 : decode cX11_begin 116 = .ok (.iastore, 1) := by decide +kernel
theorem dX11_begin_117 : decode cX11_begin 117 = .ok (.iinc 2 1, 3) := by decide +kernel
theorem dX11_begin_120 : decode cX11_begin 120 = .ok (.goto (-40), 3) := by decide +kernel
theorem dX11_begin_123 : decode cX11_begin 123 = .ok (.aload_n 0, 1) := by decide +kernel
theorem dX11_begin_124 : decode cX11_begin 124 = .ok (.getfield 7, 3) := by decide +kernel
theorem dX11_begin_127 : decode cX11_begin 127 = .ok (.iconst 2, 1) := by decide +kernel
theorem dX11_begin_128 : decode cX11_begin 128 = .ok (.iconst 2, 1) := by decide +kernel
theorem dX11_begin_129 : decode cX11_begin 129 = .ok (.iload_n 1, 1) := by decide +kernel
theorem dX11_begin_130 : decode cX11_begin 130 = .ok (.imul, 1) := by decide +kernel
theorem dX11_begin_131 : decode cX11_begin 131 = .ok (.iastore, 1) := by decide +kernel
theorem dX11_begin_132 : decode cX11_begin 132 = .ok (.return_, 1) := by decide +kernel
theorem dX11_record_0 : decode cX11_record 0 = .ok (.aload_n 0, 1) := by decide +kernel
theorem dX11_record_1 : decode cX11_record 1 = .ok (.getfield 36, 3) := by decide +kernel
theorem dX11_record_4 : decode cX11_record 4 = .ok (.iconst 4, 1) := by decide +kernel
theorem dX11_record_5 : decode cX11_record 5 = .ok (.if_icmp .ne 43, 3) := by decide +kernel
theorem dX11_record_8 : decode cX11_record 8 = .ok (.iconst 0, 1) := by decide +kernel
theorem dX11_record_9 : decode cX11_record 9 = .ok (.istore_n 1, 1) := by decide +kernel
theorem dX11_record_10 : decode cX11_record 10 = .ok (.iload_n 1, 1) := by decide +kernel
theorem dX11_record_11 : decode cX11_record 11 = .ok (.sipush 333, 3) := by decide +kernel
theorem dX11_record_14 : decode cX11_record 14 = .ok (.if_icmp .ge 24, 3) := by decide +kernel
theorem dX11_record_17 : decode cX11_record 17 = .ok (.aload_n 0, 1) := by decide +kernel
theorem dX11_record_18 : decode cX11_record 18 = .ok (.getfield 13, 3) := by decide +kernel
theorem dX11_record_21 : decode cX11_record 21 = .ok (.iload_n 1, 1) := by decide +kernel
theorem dX11_record_22 : decode cX11_record 22 = .ok (.aload_n 0, 1) := by decide +kernel
theorem dX11_record_23 : decode cX11_record 23 = .ok (.getfield 13, 3) := by decide +kernel
theorem dX11_record_26 : decode cX11_record 26 = .ok (.iload_n 1, 1) := by decide +kernel
theorem dX11_record_27 : decode cX11_record 27 = .ok (.bipush 111, 2) := by decide +kernel
theorem dX11_record_29 : decode cX11_record 29 = .ok (.iadd, 1) := by decide +kernel
theorem dX11_record_30 : decode cX11_record 30 = .ok (.iaload, 1) := by decide +kernel
theorem dX11_record_31 : decode cX11_record 31 = .ok (.iastore, 1) := by decide +kernel
theorem dX11_record_32 : decode cX11_record 32 = .ok (.iinc 1 1, 3) := by decide +kernel
theorem dX11_record_35 : decode cX11_record 35 = .ok (.goto (-25), 3) := by decide +kernel
theorem dX11_record_38 : decode cX11_record 38 = .ok (.aload_n 0, 1) := by decide +kernel
theorem dX11_record_39 : decode cX11_record 39 = .ok (.dup, 1) := by decide +kernel
theorem dX11_record_40 : decode cX11_record 40 = .ok (.getfield 36, 3) := by decide +kernel
theorem dX11_record_43 : decode cX11_record 43 = .ok (.iconst 1, 1) := by decide +kernel
theorem dX11_record_44 : decode cX11_record 44 = .ok (.isub, 1) := by decide +kernel
theorem dX11_record_45 : decode cX11_record 45 = .ok (.putfield 36, 3) := by decide +kernel
theorem dX11_record_48 : decode cX11_record 48 = .ok (.iconst 0, 1) := by decide +kernel
theorem dX11_record_49 : decode cX11_record 49 = .ok (.istore_n 1, 1) := by decide +kernel
theorem dX11_record_50 : decode cX11_record 50 = .ok (.iload_n 1, 1) := by decide +kernel
theorem dX11_record_51 : decode cX11_record 51 = .ok (.bipush 111, 2) := by decide +kernel
theorem dX11_record_53 : decode cX11_record 53 = .ok (.if_icmp .ge 29, 3) := by decide +kernel
theorem dX11_record_56 : decode cX11_record 56 = .ok (.aload_n 0, 1) := by decide +kernel
theorem dX11_record_57 : decode cX11_record 57 = .ok (.getfield 13, 3) := by decide +kernel
theorem dX11_record_60 : decode cX11_record 60 = .ok (.aload_n 0, 1) := by decide +kernel
theorem dX11_record_61 : decode cX11_record 61 = .ok (.getfield 36, 3) := by decide +kernel
theorem dX11_record_64 : decode cX11_record 64 = .ok (.bipush 111, 2) := by decide +kernel
theorem dX11_record_66 : decode cX11_record 66 = .ok (.imul, 1) := by decide +kernel
theorem dX11_record_67 : decode cX11_record 67 = .ok (.iload_n 1, 1) := by decide +kernel
theorem dX11_record_68 : decode cX11_record 68 = .ok (.iadd, 1) := by decide +kernel
theorem dX11_record_69 : decode cX11_record 69 = .ok (.aload_n 0, 1) := by decide +kernel
theorem dX11_record_70 : decode cX11_record 70 = .ok (.getfield 7, 3) := by decide +kernel
theorem dX11_record_73 : decode cX11_record 73 = .ok (.iload_n 1, 1) := by decide +kernel
theorem dX11_record_74 : decode cX11_record 74 = .ok (.iaload, 1) := by decide +kernel
theorem dX11_record_75 : decode cX11_record 75 = .ok (.iastore, 1) := by decide +kernel
theorem dX11_record_76 : decode cX11_record 76 = .ok (.iinc 1 1, 3) := by decide +kernel
theorem dX11_record_79 : decode cX11_record 79 = .ok (.goto (-29), 3) := by decide +kernel
theorem dX11_record_82 : decode cX11_record 82 = .ok (.aload_n 0, 1) := by decide +kernel
theorem dX11_record_83 : decode cX11_record 83 = .ok (.dup, 1) := by decide +kernel
theorem dX11_record_84 : decode cX11_record 84 = .ok (.getfield 36, 3) := by decide +kernel
theorem dX11_record_87 : decode cX11_record 87 = .ok (.iconst 1, 1) := by decide +kernel
theorem dX11_record_88 : decode cX11_record 88 = .ok (.iadd, 1) := by decide +kernel
theorem dX11_record_89 : decode cX11_record 89 = .ok (.putfield 36, 3) := by decide +kernel
theorem dX11_record_92 : decode cX11_record 92 = .ok (.return_, 1) := by decide +kernel
theorem dX11_undo_0 : decode cX11_undo 0 = .ok (.aload_n 0, 1) := by decide +kernel
theorem dX11_undo_1 : decode cX11_undo 1 = .ok (.getfield 36, 3) := by decide +kernel
theorem dX11_undo_4 : decode cX11_undo 4 = .ok (.ifCond .ne 6, 3) := by decide +kernel
theorem dX11_undo_7 : decode cX11_undo 7 = .ok (.ldc 40, 2) := by decide +kernel
theorem dX11_undo_9 : decode cX11_undo 9 = .ok (.ireturn, 1) := by decide +kernel
theorem dX11_undo_10 : decode cX11_undo 10 = .ok (.aload_n 0, 1) := by decide +kernel
theorem dX11_undo_11 : decode cX11_undo 11 = .ok (.dup, 1) := by decide +kernel
theorem dX11_undo_12 : decode cX11_undo 12 = .ok (.getfield 36, 3) := by decide +kernel
theorem dX11_undo_15 : decode cX11_undo 15 = .ok (.iconst 1, 1) := by decide +kernel
theorem dX11_undo_16 : decode cX11_undo 16 = .ok (.isub, 1) := by decide +kernel
theorem dX11_undo_17 : decode cX11_undo 17 = .ok (.putfield 36, 3) := by decide +kernel
theorem dX11_undo_20 : decode cX11_undo 20 = .ok (.iconst 0, 1) := by decide +kernel
theorem dX11_undo_21 : decode cX11_undo 21 = .ok (.istore_n 1, 1) := by decide +kernel
theorem dX11_undo_22 : decode cX11_undo 22 = .ok (.iload_n 1, 1) := by decide +kernel
theorem dX11_undo_23 : decode cX11_undo 23 = .ok (.bipush 111, 2) := by decide +kernel
theorem dX11_undo_25 : decode cX11_undo 25 = .ok (.if_icmp .ge 29, 3) := by decide +kernel
theorem dX11_undo_28 : decode cX11_undo 28 = .ok (.aload_n 0, 1) := by decide +kernel
theorem dX11_undo_29 : decode cX11_undo 29 = .ok (.getfield 7, 3) := by decide +kernel
theorem dX11_undo_32 : decode cX11_undo 32 = .ok (.iload_n 1, 1) := by decide +kernel
theorem dX11_undo_33 : decode cX11_undo 33 = .ok (.aload_n 0, 1) := by decide +kernel
theorem dX11_undo_34 : decode cX11_undo 34 = .ok (.getfield 13, 3) := by decide +kernel
theorem dX11_undo_37 : decode cX11_undo 37 = .ok (.aload_n 0, 1) := by decide +kernel
theorem dX11_undo_38 : decode cX11_undo 38 = .ok (.getfield 36, 3) := by decide +kernel
theorem dX11_undo_41 : decode cX11_undo 41 = .ok (.bipush 111, 2) := by decide +kernel
theorem dX11_undo_43 : decode cX11_undo 43 = .ok (.imul, 1) := by decide +kernel
theorem dX11_undo_44 : decode cX11_undo 44 = .ok (.iload_n 1, 1) := by decide +kernel
theorem dX11_undo_45 : decode cX11_undo 45 = .ok (.iadd, 1) := by decide +kernel
theorem dX11_undo_46 : decode cX11_undo 46 = .ok (.iaload, 1) := by decide +kernel
theorem dX11_undo_47 : decode cX11_undo 47 = .ok (.iastore, 1) := by decide +kernel
theorem dX11_undo_48 : decode cX11_undo 48 = .ok (.iinc 1 1, 3) := by decide +kernel
theorem dX11_undo_51 : decode cX11_undo 51 = .ok (.goto (-29), 3) := by decide +kernel
theorem dX11_undo_54 : decode cX11_undo 54 = .ok (.aload_n 0, 1) := by decide +kernel
theorem dX11_undo_55 : decode cX11_undo 55 = .ok (.getfield 36, 3) := by decide +kernel
theorem dX11_undo_58 : decode cX11_undo 58 = .ok (.ireturn, 1) := by decide +kernel
theorem dX11_keep_0 : decode cX11_keep 0 = .ok (.aload_n 0, 1) := by decide +kernel
theorem dX11_keep_1 : decode cX11_keep 1 = .ok (.iconst 1, 1) := by decide +kernel
theorem dX11_keep_2 : decode cX11_keep 2 = .ok (.putfield 41, 3) := by decide +kernel
theorem dX11_keep_5 : decode cX11_keep 5 = .ok (.iconst 0, 1) := by decide +kernel
theorem dX11_keep_6 : decode cX11_keep 6 = .ok (.istore_n 1, 1) := by decide +kernel
theorem dX11_keep_7 : decode cX11_keep 7 = .ok (.iload_n 1, 1) := by decide +kernel
theorem dX11_keep_8 : decode cX11_keep 8 = .ok (.bipush 111, 2) := by decide +kernel
theorem dX11_keep_10 : decode cX11_keep 10 = .ok (.if_icmp .ge 21, 3) := by decide +kernel
theorem dX11_keep_13 : decode cX11_keep 13 = .ok (.aload_n 0, 1) := by decide +kernel
theorem dX11_keep_14 : decode cX11_keep 14 = .ok (.getfield 16, 3) := by decide +kernel
theorem dX11_keep_17 : decode cX11_keep 17 = .ok (.iload_n 1, 1) := by decide +kernel
theorem dX11_keep_18 : decode cX11_keep 18 = .ok (.aload_n 0, 1) := by decide +kernel
theorem dX11_keep_19 : decode cX11_keep 19 = .ok (.getfield 7, 3) := by decide +kernel
theorem dX11_keep_22 : decode cX11_keep 22 = .ok (.iload_n 1, 1) := by decide +kernel
theorem dX11_keep_23 : decode cX11_keep 23 = .ok (.iaload, 1) := by decide +kernel
theorem dX11_keep_24 : decode cX11_keep 24 = .ok (.iastore, 1) := by decide +kernel
theorem dX11_keep_25 : decode cX11_keep 25 = .ok (.iinc 1 1, 3) := by decide +kernel
theorem dX11_keep_28 : decode cX11_keep 28 = .ok (.goto (-21), 3) := by decide +kernel
theorem dX11_keep_31 : decode cX11_keep 31 = .ok (.aload_n 0, 1) := by decide +kernel
theorem dX11_keep_32 : decode cX11_keep 32 = .ok (.getfield 7, 3) := by decide +kernel
theorem dX11_keep_35 : decode cX11_keep 35 = .ok (.iconst 1, 1) := by decide +kernel
theorem dX11_keep_36 : decode cX11_keep 36 = .ok (.iaload, 1) := by decide +kernel
theorem dX11_keep_37 : decode cX11_keep 37 = .ok (.ireturn, 1) := by decide +kernel
theorem dX11_restore_0 : decode cX11_restore 0 = .ok (.aload_n 0, 1) := by decide +kernel
theorem dX11_restore_1 : decode cX11_restore 1 = .ok (.getfield 41, 3) := by decide +kernel
theorem dX11_restore_4 : decode cX11_restore 4 = .ok (.ifCond .ne 6, 3) := by decide +kernel
theorem dX11_restore_7 : decode cX11_restore 7 = .ok (.ldc 40, 2) := by decide +kernel
theorem dX11_restore_9 : decode cX11_restore 9 = .ok (.ireturn, 1) := by decide +kernel
theorem dX11_restore_10 : decode cX11_restore 10 = .ok (.aload_n 0, 1) := by decide +kernel
theorem dX11_restore_11 : decode cX11_restore 11 = .ok (.invokevirtual 45, 3) := by decide +kernel
theorem dX11_restore_14 : decode cX11_restore 14 = .ok (.iconst 0, 1) := by decide +kernel
theorem dX11_restore_15 : decode cX11_restore 15 = .ok (.istore_n 1, 1) := by decide +kernel
theorem dX11_restore_16 : decode cX11_restore 16 = .ok (.iload_n 1, 1) := by decide +kernel
theorem dX11_restore_17 : decode cX11_restore 17 = .ok (.bipush 111, 2) := by decide +kernel
theorem dX11_restore_19 : decode cX11_restore 19 = .ok (.if_icmp .ge 21, 3) := by decide +kernel
theorem dX11_restore_22 : decode cX11_restore 22 = .ok (.aload_n 0, 1) := by decide +kernel
theorem dX11_restore_23 : decode cX11_restore 23 = .ok (.getfield 7, 3) := by decide +kernel
theorem dX11_restore_26 : decode cX11_restore 26 = .ok (.iload_n 1, 1) := by decide +kernel
theorem dX11_restore_27 : decode cX11_restore 27 = .ok (.aload_n 0, 1) := by decide +kernel
theorem dX11_restore_28 : decode cX11_restore 28 = .ok (.getfield 16, 3) := by decide +kernel
theorem dX11_restore_31 : decode cX11_restore 31 = .ok (.iload_n 1, 1) := by decide +kernel
theorem dX11_restore_32 : decode cX11_restore 32 = .ok (.iaload, 1) := by decide +kernel
theorem dX11_restore_33 : decode cX11_restore 33 = .ok (.iastore, 1) := by decide +kernel
theorem dX11_restore_34 : decode cX11_restore 34 = .ok (.iinc 1 1, 3) := by decide +kernel
theorem dX11_restore_37 : decode cX11_restore 37 = .ok (.goto (-21), 3) := by decide +kernel
theorem dX11_restore_40 : decode cX11_restore 40 = .ok (.aload_n 0, 1) := by decide +kernel
theorem dX11_restore_41 : decode cX11_restore 41 = .ok (.getfield 7, 3) := by decide +kernel
theorem dX11_restore_44 : decode cX11_restore 44 = .ok (.iconst 1, 1) := by decide +kernel
theorem dX11_restore_45 : decode cX11_restore 45 = .ok (.iaload, 1) := by decide +kernel
theorem dX11_restore_46 : decode cX11_restore 46 = .ok (.ireturn, 1) := by decide +kernel
theorem dX11_areOfVariables_0 : decode cX11_areOfVariables 0 = .ok (.aload_n 0, 1) := by decide +kernel
theorem dX11_areOfVariables_1 : decode cX11_areOfVariables 1 = .ok (.getfield 7, 3) := by decide +kernel
theorem dX11_areOfVariables_4 : decode cX11_areOfVariables 4 = .ok (.iconst 0, 1) := by decide +kernel
theorem dX11_areOfVariables_5 : decode cX11_areOfVariables 5 = .ok (.iaload, 1) := by decide +kernel
theorem dX11_areOfVariables_6 : decode cX11_areOfVariables 6 = .ok (.iconst 1, 1) := by decide +kernel
theorem dX11_areOfVariables_7 : decode cX11_areOfVariables 7 = .ok (.if_icmp .gt 7, 3) := by decide +kernel
theorem dX11_areOfVariables_10 : decode cX11_areOfVariables 10 = .ok (.iload_n 2, 1) := by decide +kernel
theorem dX11_areOfVariables_11 : decode cX11_areOfVariables 11 = .ok (.ifCond .ne 21, 3) := by decide +kernel
theorem dX11_areOfVariables_14 : decode cX11_areOfVariables 14 = .ok (.aload_n 0, 1) := by decide +kernel
theorem dX11_areOfVariables_15 : decode cX11_areOfVariables 15 = .ok (.getfield 7, 3) := by decide +kernel
theorem dX11_areOfVariables_18 : decode cX11_areOfVariables 18 = .ok (.iconst 0, 1) := by decide +kernel
theorem dX11_areOfVariables_19 : decode cX11_areOfVariables 19 = .ok (.iaload, 1) := by decide +kernel
theorem dX11_areOfVariables_20 : decode cX11_areOfVariables 20 = .ok (.iconst 2, 1) := by decide +kernel
theorem dX11_areOfVariables_21 : decode cX11_areOfVariables 21 = .ok (.if_icmp .gt 7, 3) := by decide +kernel
theorem dX11_areOfVariables_24 : decode cX11_areOfVariables 24 = .ok (.iload_n 3, 1) := by decide +kernel
theorem dX11_areOfVariables_25 : decode cX11_areOfVariables 25 = .ok (.ifCond .ne 7, 3) := by decide +kernel
theorem dX11_areOfVariables_28 : decode cX11_areOfVariables 28 = .ok (.iconst 1, 1) := by decide +kernel
theorem dX11_areOfVariables_29 : decode cX11_areOfVariables 29 = .ok (.goto 4, 3) := by decide +kernel
theorem dX11_areOfVariables_32 : decode cX11_areOfVariables 32 = .ok (.iconst 0, 1) := by decide +kernel
theorem dX11_areOfVariables_33 : decode cX11_areOfVariables 33 = .ok (.ireturn, 1) := by decide +kernel
theorem dX11_arePlace_0 : decode cX11_arePlace 0 = .ok (.iload_n 1, 1) := by decide +kernel
theorem dX11_arePlace_1 : decode cX11_arePlace 1 = .ok (.bipush (-50), 2) := by decide +kernel
theorem dX11_arePlace_3 : decode cX11_arePlace 3 = .ok (.bipush 50, 2) := by decide +kernel
theorem dX11_arePlace_5 : decode cX11_arePlace 5 = .ok (.invokestatic 48, 3) := by decide +kernel
theorem dX11_arePlace_8 : decode cX11_arePlace 8 = .ok (.ifCond .eq 39, 3) := by decide +kernel
theorem dX11_arePlace_11 : decode cX11_arePlace 11 = .ok (.iload_n 2, 1) := by decide +kernel
theorem dX11_arePlace_12 : decode cX11_arePlace 12 = .ok (.bipush (-50), 2) := by decide +kernel
theorem dX11_arePlace_14 : decode cX11_arePlace 14 = .ok (.bipush 50, 2) := by decide +kernel
theorem dX11_arePlace_16 : decode cX11_arePlace 16 = .ok (.invokestatic 48, 3) := by decide +kernel
theorem dX11_arePlace_19 : decode cX11_arePlace 19 = .ok (.ifCond .eq 28, 3) := by decide +kernel
theorem dX11_arePlace_22 : decode cX11_arePlace 22 = .ok (.iload_n 3, 1) := by decide +kernel
theorem dX11_arePlace_23 : decode cX11_arePlace 23 = .ok (.bipush (-50), 2) := by decide +kernel
theorem dX11_arePlace_25 : decode cX11_arePlace 25 = .ok (.bipush 50, 2) := by decide +kernel
theorem dX11_arePlace_27 : decode cX11_arePlace 27 = .ok (.invokestatic 48, 3) := by decide +kernel
theorem dX11_arePlace_30 : decode cX11_arePlace 30 = .ok (.ifCond .eq 17, 3) := by decide +kernel
theorem dX11_arePlace_33 : decode cX11_arePlace 33 = .ok (.aload_n 0, 1) := by decide +kernel
theorem dX11_arePlace_34 : decode cX11_arePlace 34 = .ok (.iload_n 1, 1) := by decide +kernel
theorem dX11_arePlace_35 : decode cX11_arePlace 35 = .ok (.iload_n 2, 1) := by decide +kernel
theorem dX11_arePlace_36 : decode cX11_arePlace 36 = .ok (.iload_n 3, 1) := by decide +kernel
theorem dX11_arePlace_37 : decode cX11_arePlace 37 = .ok (.invokevirtual 52, 3) := by decide +kernel
theorem dX11_arePlace_40 : decode cX11_arePlace 40 = .ok (.ifCond .eq 7, 3) := by decide +kernel
theorem dX11_arePlace_43 : decode cX11_arePlace 43 = .ok (.iconst 1, 1) := by decide +kernel
theorem dX11_arePlace_44 : decode cX11_arePlace 44 = .ok (.goto 4, 3) := by decide +kernel
theorem dX11_arePlace_47 : decode cX11_arePlace 47 = .ok (.iconst 0, 1) := by decide +kernel
theorem dX11_arePlace_48 : decode cX11_arePlace 48 = .ok (.ireturn, 1) := by decide +kernel
theorem dX11_power_0 : decode cX11_power 0 = .ok (.lconst 1, 1) := by decide +kernel
theorem dX11_power_1 : decode cX11_power 1 = .ok (.lstore_n 2, 1) := by decide +kernel
theorem dX11_power_2 : decode cX11_power 2 = .ok (.iconst 0, 1) := by decide +kernel
theorem dX11_power_3 : decode cX11_power 3 = .ok (.istore 4, 2) := by decide +kernel
theorem dX11_power_5 : decode cX11_power 5 = .ok (.iload 4, 2) := by decide +kernel
theorem dX11_power_7 : decode cX11_power 7 = .ok (.iload_n 1, 1) := by decide +kernel
theorem dX11_power_8 : decode cX11_power 8 = .ok (.if_icmp .ge 14, 3) := by decide +kernel
theorem dX11_power_11 : decode cX11_power 11 = .ok (.lload_n 2, 1) := by decide +kernel
theorem dX11_power_12 : decode cX11_power 12 = .ok (.iload_n 0, 1) := by decide +kernel
theorem dX11_power_13 : decode cX11_power 13 = .ok (.i2l, 1) := by decide +kernel
theorem dX11_power_14 : decode cX11_power 14 = .ok (.lmul, 1) := by decide +kernel
theorem dX11_power_15 : decode cX11_power 15 = .ok (.lstore_n 2, 1) := by decide +kernel
theorem dX11_power_16 : decode cX11_power 16 = .ok (.iinc 4 1, 3) := by decide +kernel
theorem dX11_power_19 : decode cX11_power 19 = .ok (.goto (-14), 3) := by decide +kernel
theorem dX11_power_22 : decode cX11_power 22 = .ok (.lload_n 2, 1) := by decide +kernel
theorem dX11_power_23 : decode cX11_power 23 = .ok (.lreturn, 1) := by decide +kernel
theorem dX11_valueAt_0 : decode cX11_valueAt 0 = .ok (.lconst 0, 1) := by decide +kernel
theorem dX11_valueAt_1 : decode cX11_valueAt 1 = .ok (.lstore 5, 2) := by decide +kernel
theorem dX11_valueAt_3 : decode cX11_valueAt 3 = .ok (.iconst 0, 1) := by decide +kernel
theorem dX11_valueAt_4 : decode cX11_valueAt 4 = .ok (.istore 7, 2) := by decide +kernel
theorem dX11_valueAt_6 : decode cX11_valueAt 6 = .ok (.iload 7, 2) := by decide +kernel
theorem dX11_valueAt_8 : decode cX11_valueAt 8 = .ok (.aload_n 0, 1) := by decide +kernel
theorem dX11_valueAt_9 : decode cX11_valueAt 9 = .ok (.getfield 7, 3) := by decide +kernel
theorem dX11_valueAt_12 : decode cX11_valueAt 12 = .ok (.iconst 1, 1) := by decide +kernel
theorem dX11_valueAt_13 : decode cX11_valueAt 13 = .ok (.iaload, 1) := by decide +kernel
theorem dX11_valueAt_14 : decode cX11_valueAt 14 = .ok (.if_icmp .ge 127, 3) := by decide +kernel
theorem dX11_valueAt_17 : decode cX11_valueAt 17 = .ok (.bipush 21, 2) := by decide +kernel
theorem dX11_valueAt_19 : decode cX11_valueAt 19 = .ok (.iconst 4, 1) := by decide +kernel
theorem dX11_valueAt_20 : decode cX11_valueAt 20 = .ok (.iload 7, 2) := by decide +kernel
theorem dX11_valueAt_22 : decode cX11_valueAt 22 = .ok (.imul, 1) := by decide +kernel
theorem dX11_valueAt_23 : decode cX11_valueAt 23 = .ok (.iadd, 1) := by decide +kernel
theorem dX11_valueAt_24 : decode cX11_valueAt 24 = .ok (.istore 8, 2) := by decide +kernel
theorem dX11_valueAt_26 : decode cX11_valueAt 26 = .ok (.iload 4, 2) := by decide +kernel
theorem dX11_valueAt_28 : decode cX11_valueAt 28 = .ok (.ifCond .eq 36, 3) := by decide +kernel
theorem dX11_valueAt_31 : decode cX11_valueAt 31 = .ok (.aload_n 0, 1) := by decide +kernel
theorem dX11_valueAt_32 : decode cX11_valueAt 32 = .ok (.getfield 7, 3) := by decide +kernel
theorem dX11_valueAt_35 : decode cX11_valueAt 35 = .ok (.iload 8, 2) := by decide +kernel
theorem dX11_valueAt_37 : decode cX11_valueAt 37 = .ok (.iconst 1, 1) := by decide +kernel
theorem dX11_valueAt_38 : decode cX11_valueAt 38 = .ok (.iadd, 1) := by decide +kernel
theorem dX11_valueAt_39 : decode cX11_valueAt 39 = .ok (.iaload, 1) := by decide +kernel
theorem dX11_valueAt_40 : decode cX11_valueAt 40 = .ok (.aload_n 0, 1) := by decide +kernel
theorem dX11_valueAt_41 : decode cX11_valueAt 41 = .ok (.getfield 7, 3) := by decide +kernel
theorem dX11_valueAt_44 : decode cX11_valueAt 44 = .ok (.iload 8, 2) := by decide +kernel
theorem dX11_valueAt_46 : decode cX11_valueAt 46 = .ok (.iconst 2, 1) := by decide +kernel
theorem dX11_valueAt_47 : decode cX11_valueAt 47 = .ok (.iadd, 1) := by decide +kernel
theorem dX11_valueAt_48 : decode cX11_valueAt 48 = .ok (.iaload, 1) := by decide +kernel
theorem dX11_valueAt_49 : decode cX11_valueAt 49 = .ok (.iadd, 1) := by decide +kernel
theorem dX11_valueAt_50 : decode cX11_valueAt 50 = .ok (.aload_n 0, 1) := by decide +kernel
theorem dX11_valueAt_51 : decode cX11_valueAt 51 = .ok (.getfield 7, 3) := by decide +kernel
theorem dX11_valueAt_54 : decode cX11_valueAt 54 = .ok (.iload 8, 2) := by decide +kernel
theorem dX11_valueAt_56 : decode cX11_valueAt 56 = .ok (.iconst 3, 1) := by decide +kernel
theorem dX11_valueAt_57 : decode cX11_valueAt 57 = .ok (.iadd, 1) := by decide +kernel
theorem dX11_valueAt_58 : decode cX11_valueAt 58 = .ok (.iaload, 1) := by decide +kernel
theorem dX11_valueAt_59 : decode cX11_valueAt 59 = .ok (.iadd, 1) := by decide +kernel
theorem dX11_valueAt_60 : decode cX11_valueAt 60 = .ok (.iconst 2, 1) := by decide +kernel
theorem dX11_valueAt_61 : decode cX11_valueAt 61 = .ok (.if_icmp .gt 7, 3) := by decide +kernel
theorem dX11_valueAt_64 : decode cX11_valueAt 64 = .ok (.iconst 1, 1) := by decide +kernel
theorem dX11_valueAt_65 : decode cX11_valueAt 65 = .ok (.goto 4, 3) := by decide +kernel
theorem dX11_valueAt_68 : decode cX11_valueAt 68 = .ok (.iconst 0, 1) := by decide +kernel
theorem dX11_valueAt_69 : decode cX11_valueAt 69 = .ok (.istore 9, 2) := by decide +kernel
theorem dX11_valueAt_71 : decode cX11_valueAt 71 = .ok (.lload 5, 2) := by decide +kernel
theorem dX11_valueAt_73 : decode cX11_valueAt 73 = .ok (.iload 9, 2) := by decide +kernel
theorem dX11_valueAt_75 : decode cX11_valueAt 75 = .ok (.ifCond .eq 56, 3) := by decide +kernel
theorem dX11_valueAt_78 : decode cX11_valueAt 78 = .ok (.aload_n 0, 1) := by decide +kernel
theorem dX11_valueAt_79 : decode cX11_valueAt 79 = .ok (.getfield 7, 3) := by decide +kernel
theorem dX11_valueAt_82 : decode cX11_valueAt 82 = .ok (.iload 8, 2) := by decide +kernel
theorem dX11_valueAt_84 : decode cX11_valueAt 84 = .ok (.iaload, 1) := by decide +kernel
theorem dX11_valueAt_85 : decode cX11_valueAt 85 = .ok (.i2l, 1) := by decide +kernel
theorem dX11_valueAt_86 : decode cX11_valueAt 86 = .ok (.iload_n 1, 1) := by decide +kernel
theorem dX11_valueAt_87 : decode cX11_valueAt 87 = .ok (.aload_n 0, 1) := by decide +kernel
theorem dX11_valueAt_88 : decode cX11_valueAt 88 = .ok (.getfield 7, 3) := by decide +kernel
theorem dX11_valueAt_91 : decode cX11_valueAt 91 = .ok (.iload 8, 2) := by decide +kernel
theorem dX11_valueAt_93 : decode cX11_valueAt 93 = .ok (.iconst 1, 1) := by decide +kernel
theorem dX11_valueAt_94 : decode cX11_valueAt 94 = .ok (.iadd, 1) := by decide +kernel
theorem dX11_valueAt_95 : decode cX11_valueAt 95 = .ok (.iaload, 1) := by decide +kernel
theorem dX11_valueAt_96 : decode cX11_valueAt 96 = .ok (.invokestatic 55, 3) := by decide +kernel
theorem dX11_valueAt_99 : decode cX11_valueAt 99 = .ok (.lmul, 1) := by decide +kernel
theorem dX11_valueAt_100 : decode cX11_valueAt 100 = .ok (.iload_n 2, 1) := by decide +kernel
theorem dX11_valueAt_101 : decode cX11_valueAt 101 = .ok (.aload_n 0, 1) := by decide +kernel
theorem dX11_valueAt_102 : decode cX11_valueAt 102 = .ok (.getfield 7, 3) := by decide +kernel
theorem dX11_valueAt_105 : decode cX11_valueAt 105 = .ok (.iload 8, 2) := by decide +kernel
theorem dX11_valueAt_107 : decode cX11_valueAt 107 = .ok (.iconst 2, 1) := by decide +kernel
theorem dX11_valueAt_108 : decode cX11_valueAt 108 = .ok (.iadd, 1) := by decide +kernel
theorem dX11_valueAt_109 : decode cX11_valueAt 109 = .ok (.iaload, 1) := by decide +kernel
theorem dX11_valueAt_110 : decode cX11_valueAt 110 = .ok (.invokestatic 55, 3) := by decide +kernel
theorem dX11_valueAt_113 : decode cX11_valueAt 113 = .ok (.lmul, 1) := by decide +kernel
theorem dX11_valueAt_114 : decode cX11_valueAt 114 = .ok (.iload_n 3, 1) := by decide +kernel
theorem dX11_valueAt_115 : decode cX11_valueAt 115 = .ok (.aload_n 0, 1) := by decide +kernel
theorem dX11_valueAt_116 : decode cX11_valueAt 116 = .ok (.getfield 7, 3) := by decide +kernel
theorem dX11_valueAt_119 : decode cX11_valueAt 119 = .ok (.iload 8, 2) := by decide +kernel
theorem dX11_valueAt_121 : decode cX11_valueAt 121 = .ok (.iconst 3, 1) := by decide +kernel
theorem dX11_valueAt_122 : decode cX11_valueAt 122 = .ok (.iadd, 1) := by decide +kernel
theorem dX11_valueAt_123 : decode cX11_valueAt 123 = .ok (.iaload, 1) := by decide +kernel
theorem dX11_valueAt_124 : decode cX11_valueAt 124 = .ok (.invokestatic 55, 3) := by decide +kernel
theorem dX11_valueAt_127 : decode cX11_valueAt 127 = .ok (.lmul, 1) := by decide +kernel
theorem dX11_valueAt_128 : decode cX11_valueAt 128 = .ok (.goto 4, 3) := by decide +kernel
theorem dX11_valueAt_131 : decode cX11_valueAt 131 = .ok (.lconst 0, 1) := by decide +kernel
theorem dX11_valueAt_132 : decode cX11_valueAt 132 = .ok (.ladd, 1) := by decide +kernel
theorem dX11_valueAt_133 : decode cX11_valueAt 133 = .ok (.lstore 5, 2) := by decide +kernel
theorem dX11_valueAt_135 : decode cX11_valueAt 135 = .ok (.iinc 7 1, 3) := by decide +kernel
theorem dX11_valueAt_138 : decode cX11_valueAt 138 = .ok (.goto (-132), 3) := by decide +kernel
theorem dX11_valueAt_141 : decode cX11_valueAt 141 = .ok (.lload 5, 2) := by decide +kernel
theorem dX11_valueAt_143 : decode cX11_valueAt 143 = .ok (.lreturn, 1) := by decide +kernel
theorem dX11_value_0 : decode cX11_value 0 = .ok (.aload_n 0, 1) := by decide +kernel
theorem dX11_value_1 : decode cX11_value 1 = .ok (.iload_n 1, 1) := by decide +kernel
theorem dX11_value_2 : decode cX11_value 2 = .ok (.iload_n 2, 1) := by decide +kernel
theorem dX11_value_3 : decode cX11_value 3 = .ok (.iload_n 3, 1) := by decide +kernel
theorem dX11_value_4 : decode cX11_value 4 = .ok (.invokevirtual 59, 3) := by decide +kernel
theorem dX11_value_7 : decode cX11_value 7 = .ok (.ifCond .eq 13, 3) := by decide +kernel
theorem dX11_value_10 : decode cX11_value 10 = .ok (.iload 4, 2) := by decide +kernel
theorem dX11_value_12 : decode cX11_value 12 = .ok (.iconst 0, 1) := by decide +kernel
theorem dX11_value_13 : decode cX11_value 13 = .ok (.iconst 1, 1) := by decide +kernel
theorem dX11_value_14 : decode cX11_value 14 = .ok (.invokestatic 48, 3) := by decide +kernel
theorem dX11_value_17 : decode cX11_value 17 = .ok (.ifCond .ne 7, 3) := by decide +kernel
theorem dX11_value_20 : decode cX11_value 20 = .ok (.ldc2_w 62, 3) := by decide +kernel
theorem dX11_value_23 : decode cX11_value 23 = .ok (.lreturn, 1) := by decide +kernel
theorem dX11_value_24 : decode cX11_value 24 = .ok (.aload_n 0, 1) := by decide +kernel
theorem dX11_value_25 : decode cX11_value 25 = .ok (.iload_n 1, 1) := by decide +kernel
theorem dX11_value_26 : decode cX11_value 26 = .ok (.iload_n 2, 1) := by decide +kernel
theorem dX11_value_27 : decode cX11_value 27 = .ok (.iload_n 3, 1) := by decide +kernel
theorem dX11_value_28 : decode cX11_value 28 = .ok (.iload 4, 2) := by decide +kernel
theorem dX11_value_30 : decode cX11_value 30 = .ok (.iconst 1, 1) := by decide +kernel
theorem dX11_value_31 : decode cX11_value 31 = .ok (.if_icmp .ne 7, 3) := by decide +kernel
theorem dX11_value_34 : decode cX11_value 34 = .ok (.iconst 1, 1) := by decide +kernel
theorem dX11_value_35 : decode cX11_value 35 = .ok (.goto 4, 3) := by decide +kernel
theorem dX11_value_38 : decode cX11_value 38 = .ok (.iconst 0, 1) := by decide +kernel
theorem dX11_value_39 : decode cX11_value 39 = .ok (.invokevirtual 64, 3) := by decide +kernel
theorem dX11_value_42 : decode cX11_value 42 = .ok (.ldc2_w 68, 3) := by decide +kernel
theorem dX11_value_45 : decode cX11_value 45 = .ok (.ladd, 1) := by decide +kernel
theorem dX11_value_46 : decode cX11_value 46 = .ok (.lreturn, 1) := by decide +kernel
theorem dX11_variables_0 : decode cX11_variables 0 = .ok (.iload_n 1, 1) := by decide +kernel
theorem dX11_variables_1 : decode cX11_variables 1 = .ok (.iconst 1, 1) := by decide +kernel
theorem dX11_variables_2 : decode cX11_variables 2 = .ok (.iconst 3, 1) := by decide +kernel
theorem dX11_variables_3 : decode cX11_variables 3 = .ok (.invokestatic 48, 3) := by decide +kernel
theorem dX11_variables_6 : decode cX11_variables 6 = .ok (.ifCond .ne 6, 3) := by decide +kernel
theorem dX11_variables_9 : decode cX11_variables 9 = .ok (.ldc 70, 2) := by decide +kernel
theorem dX11_variables_11 : decode cX11_variables 11 = .ok (.ireturn, 1) := by decide +kernel
theorem dX11_variables_12 : decode cX11_variables 12 = .ok (.aload_n 0, 1) := by decide +kernel
theorem dX11_variables_13 : decode cX11_variables 13 = .ok (.invokevirtual 45, 3) := by decide +kernel
theorem dX11_variables_16 : decode cX11_variables 16 = .ok (.aload_n 0, 1) := by decide +kernel
theorem dX11_variables_17 : decode cX11_variables 17 = .ok (.getfield 7, 3) := by decide +kernel
theorem dX11_variables_20 : decode cX11_variables 20 = .ok (.iconst 0, 1) := by decide +kernel
theorem dX11_variables_21 : decode cX11_variables 21 = .ok (.iaload, 1) := by decide +kernel
theorem dX11_variables_22 : decode cX11_variables 22 = .ok (.istore_n 2, 1) := by decide +kernel
theorem dX11_variables_23 : decode cX11_variables 23 = .ok (.aload_n 0, 1) := by decide +kernel
theorem dX11_variables_24 : decode cX11_variables 24 = .ok (.iload_n 1, 1) := by decide +kernel
theorem dX11_variables_25 : decode cX11_variables 25 = .ok (.invokevirtual 32, 3) := by decide +kernel
theorem dX11_variables_28 : decode cX11_variables 28 = .ok (.iload_n 2, 1) := by decide +kernel
theorem dX11_variables_29 : decode cX11_variables 29 = .ok (.ireturn, 1) := by decide +kernel
theorem dX11_putTerm_0 : decode cX11_putTerm 0 = .ok (.aload_n 0, 1) := by decide +kernel
theorem dX11_putTerm_1 : decode cX11_putTerm 1 = .ok (.getfield 7, 3) := by decide +kernel
theorem dX11_putTerm_4 : decode cX11_putTerm 4 = .ok (.bipush 21, 2) := by decide +kernel
theorem dX11_putTerm_6 : decode cX11_putTerm 6 = .ok (.iconst 4, 1) := by decide +kernel
theorem dX11_putTerm_7 : decode cX11_putTerm 7 = .ok (.iload_n 1, 1) := by decide +kernel
theorem dX11_putTerm_8 : decode cX11_putTerm 8 = .ok (.imul, 1) := by decide +kernel
theorem dX11_putTerm_9 : decode cX11_putTerm 9 = .ok (.iadd, 1) := by decide +kernel
theorem dX11_putTerm_10 : decode cX11_putTerm 10 = .ok (.iload_n 2, 1) := by decide +kernel
theorem dX11_putTerm_11 : decode cX11_putTerm 11 = .ok (.iastore, 1) := by decide +kernel
theorem dX11_putTerm_12 : decode cX11_putTerm 12 = .ok (.aload_n 0, 1) := by decide +kernel
theorem dX11_putTerm_13 : decode cX11_putTerm 13 = .ok (.getfield 7, 3) := by decide +kernel
theorem dX11_putTerm_16 : decode cX11_putTerm 16 = .ok (.bipush 21, 2) := by decide +kernel
theorem dX11_putTerm_18 : decode cX11_putTerm 18 = .ok (.iconst 4, 1) := by decide +kernel
theorem dX11_putTerm_19 : decode cX11_putTerm 19 = .ok (.iload_n 1, 1) := by decide +kernel
theorem dX11_putTerm_20 : decode cX11_putTerm 20 = .ok (.imul, 1) := by decide +kernel
theorem dX11_putTerm_21 : decode cX11_putTerm 21 = .ok (.iadd, 1) := by decide +kernel
theorem dX11_putTerm_22 : decode cX11_putTerm 22 = .ok (.iconst 1, 1) := by decide +kernel
theorem dX11_putTerm_23 : decode cX11_putTerm 23 = .ok (.iadd, 1) := by decide +kernel
theorem dX11_putTerm_24 : decode cX11_putTerm 24 = .ok (.iload_n 3, 1) := by decide +kernel
theorem dX11_putTerm_25 : decode cX11_putTerm 25 = .ok (.iastore, 1) := by decide +kernel
theorem dX11_putTerm_26 : decode cX11_putTerm 26 = .ok (.aload_n 0, 1) := by decide +kernel
theorem dX11_putTerm_27 : decode cX11_putTerm 27 = .ok (.getfield 7, 3) := by decide +kernel
theorem dX11_putTerm_30 : decode cX11_putTerm 30 = .ok (.bipush 21, 2) := by decide +kernel
theorem dX11_putTerm_32 : decode cX11_putTerm 32 = .ok (.iconst 4, 1) := by decide +kernel
theorem dX11_putTerm_33 : decode cX11_putTerm 33 = .ok (.iload_n 1, 1) := by decide +kernel
theorem dX11_putTerm_34 : decode cX11_putTerm 34 = .ok (.imul, 1) := by decide +kernel
theorem dX11_putTerm_35 : decode cX11_putTerm 35 = .ok (.iadd, 1) := by decide +kernel
theorem dX11_putTerm_36 : decode cX11_putTerm 36 = .ok (.iconst 2, 1) := by decide +kernel
theorem dX11_putTerm_37 : decode cX11_putTerm 37 = .ok (.iadd, 1) := by decide +kernel
theorem dX11_putTerm_38 : decode cX11_putTerm 38 = .ok (.iload 4, 2) := by decide +kernel
theorem dX11_putTerm_40 : decode cX11_putTerm 40 = .ok (.iastore, 1) := by decide +kernel
theorem dX11_putTerm_41 : decode cX11_putTerm 41 = .ok (.aload_n 0, 1) := by decide +kernel
theorem dX11_putTerm_42 : decode cX11_putTerm 42 = .ok (.getfield 7, 3) := by decide +kernel
theorem dX11_putTerm_45 : decode cX11_putTerm 45 = .ok (.bipush 21, 2) := by decide +kernel
theorem dX11_putTerm_47 : decode cX11_putTerm 47 = .ok (.iconst 4, 1) := by decide +kernel
theorem dX11_putTerm_48 : decode cX11_putTerm 48 = .ok (.iload_n 1, 1) := by decide +kernel
theorem dX11_putTerm_49 : decode cX11_putTerm 49 = .ok (.imul, 1) := by decide +kernel
theorem dX11_putTerm_50 : decode cX11_putTerm 50 = .ok (.iadd, 1) := by decide +kernel
theorem dX11_putTerm_51 : decode cX11_putTerm 51 = .ok (.iconst 3, 1) := by decide +kernel
theorem dX11_putTerm_52 : decode cX11_putTerm 52 = .ok (.iadd, 1) := by decide +kernel
theorem dX11_putTerm_53 : decode cX11_putTerm 53 = .ok (.iload 5, 2) := by decide +kernel
theorem dX11_putTerm_55 : decode cX11_putTerm 55 = .ok (.iastore, 1) := by decide +kernel
theorem dX11_putTerm_56 : decode cX11_putTerm 56 = .ok (.return_, 1) := by decide +kernel
theorem dX11_term_0 : decode cX11_term 0 = .ok (.iload_n 1, 1) := by decide +kernel
theorem dX11_term_1 : decode cX11_term 1 = .ok (.bipush (-99), 2) := by decide +kernel
theorem dX11_term_3 : decode cX11_term 3 = .ok (.bipush 99, 2) := by decide +kernel
theorem dX11_term_5 : decode cX11_term 5 = .ok (.invokestatic 48, 3) := by decide +kernel
theorem dX11_term_8 : decode cX11_term 8 = .ok (.ifCond .eq 39, 3) := by decide +kernel
theorem dX11_term_11 : decode cX11_term 11 = .ok (.iload_n 1, 1) := by decide +kernel
theorem dX11_term_12 : decode cX11_term 12 = .ok (.ifCond .eq 35, 3) := by decide +kernel
theorem dX11_term_15 : decode cX11_term 15 = .ok (.iload_n 2, 1) := by decide +kernel
theorem dX11_term_16 : decode cX11_term 16 = .ok (.iconst 0, 1) := by decide +kernel
theorem dX11_term_17 : decode cX11_term 17 = .ok (.iconst 4, 1) := by decide +kernel
theorem dX11_term_18 : decode cX11_term 18 = .ok (.invokestatic 48, 3) := by decide +kernel
theorem dX11_term_21 : decode cX11_term 21 = .ok (.ifCond .eq 26, 3) := by decide +kernel
theorem dX11_term_24 : decode cX11_term 24 = .ok (.iload_n 3, 1) := by decide +kernel
theorem dX11_term_25 : decode cX11_term 25 = .ok (.iconst 0, 1) := by decide +kernel
theorem dX11_term_26 : decode cX11_term 26 = .ok (.iconst 4, 1) := by decide +kernel
theorem dX11_term_27 : decode cX11_term 27 = .ok (.invokestatic 48, 3) := by decide +kernel
theorem dX11_term_30 : decode cX11_term 30 = .ok (.ifCond .eq 17, 3) := by decide +kernel
theorem dX11_term_33 : decode cX11_term 33 = .ok (.iload 4, 2) := by decide +kernel
theorem dX11_term_35 : decode cX11_term 35 = .ok (.iconst 0, 1) := by decide +kernel
theorem dX11_term_36 : decode cX11_term 36 = .ok (.iconst 4, 1) := by decide +kernel
theorem dX11_term_37 : decode cX11_term 37 = .ok (.invokestatic 48, 3) := by decide +kernel
theorem dX11_term_40 : decode cX11_term 40 = .ok (.ifCond .eq 7, 3) := by decide +kernel
theorem dX11_term_43 : decode cX11_term 43 = .ok (.iconst 1, 1) := by decide +kernel
theorem dX11_term_44 : decode cX11_term 44 = .ok (.goto 4, 3) := by decide +kernel
theorem dX11_term_47 : decode cX11_term 47 = .ok (.iconst 0, 1) := by decide +kernel
theorem dX11_term_48 : decode cX11_term 48 = .ok (.istore 5, 2) := by decide +kernel
theorem dX11_term_50 : decode cX11_term 50 = .ok (.iload 5, 2) := by decide +kernel
theorem dX11_term_52 : decode cX11_term 52 = .ok (.ifCond .eq 24, 3) := by decide +kernel
theorem dX11_term_55 : decode cX11_term 55 = .ok (.iload_n 2, 1) := by decide +kernel
theorem dX11_term_56 : decode cX11_term 56 = .ok (.iload_n 3, 1) := by decide +kernel
theorem dX11_term_57 : decode cX11_term 57 = .ok (.iadd, 1) := by decide +kernel
theorem dX11_term_58 : decode cX11_term 58 = .ok (.iload 4, 2) := by decide +kernel
theorem dX11_term_60 : decode cX11_term 60 = .ok (.iadd, 1) := by decide +kernel
theorem dX11_term_61 : decode cX11_term 61 = .ok (.iconst 4, 1) := by decide +kernel
theorem dX11_term_62 : decode cX11_term 62 = .ok (.if_icmp .gt 14, 3) := by decide +kernel
theorem dX11_term_65 : decode cX11_term 65 = .ok (.aload_n 0, 1) := by decide +kernel
theorem dX11_term_66 : decode cX11_term 66 = .ok (.iload_n 2, 1) := by decide +kernel
theorem dX11_term_67 : decode cX11_term 67 = .ok (.iload_n 3, 1) := by decide +kernel
theorem dX11_term_68 : decode cX11_term 68 = .ok (.iload 4, 2) := by decide +kernel
theorem dX11_term_70 : decode cX11_term 70 = .ok (.invokevirtual 52, 3) := by decide +kernel
theorem dX11_term_73 : decode cX11_term 73 = .ok (.ifCond .ne 6, 3) := by decide +kernel
theorem dX11_term_76 : decode cX11_term 76 = .ok (.ldc 70, 2) := by decide +kernel
theorem dX11_term_78 : decode cX11_term 78 = .ok (.ireturn, 1) := by decide +kernel
theorem dX11_term_79 : decode cX11_term 79 = .ok (.aload_n 0, 1) := by decide +kernel
theorem dX11_term_80 : decode cX11_term 80 = .ok (.invokevirtual 71, 3) := by decide +kernel
theorem dX11_term_83 : decode cX11_term 83 = .ok (.bipush 10, 2) := by decide +kernel
theorem dX11_term_85 : decode cX11_term 85 = .ok (.if_icmp .ne 6, 3) := by decide +kernel
theorem dX11_term_88 : decode cX11_term 88 = .ok (.ldc 75, 2) := by decide +kernel
theorem dX11_term_90 : decode cX11_term 90 = .ok (.ireturn, 1) := by decide +kernel
theorem dX11_term_91 : decode cX11_term 91 = .ok (.aload_n 0, 1) := by decide +kernel
theorem dX11_term_92 : decode cX11_term 92 = .ok (.invokevirtual 45, 3) := by decide +kernel
theorem dX11_term_95 : decode cX11_term 95 = .ok (.aload_n 0, 1) := by decide +kernel
theorem dX11_term_96 : decode cX11_term 96 = .ok (.aload_n 0, 1) := by decide +kernel
theorem dX11_term_97 : decode cX11_term 97 = .ok (.invokevirtual 71, 3) := by decide +kernel
theorem dX11_term_100 : decode cX11_term 100 = .ok (.iload_n 1, 1) := by decide +kernel
theorem dX11_term_101 : decode cX11_term 101 = .ok (.iload_n 2, 1) := by decide +kernel
theorem dX11_term_102 : decode cX11_term 102 = .ok (.iload_n 3, 1) := by decide +kernel
theorem dX11_term_103 : decode cX11_term 103 = .ok (.iload 4, 2) := by decide +kernel
theorem dX11_term_105 : decode cX11_term 105 = .ok (.invokevirtual 76, 3) := by decide +kernel
theorem dX11_term_108 : decode cX11_term 108 = .ok (.aload_n 0, 1) := by decide +kernel
theorem dX11_term_109 : decode cX11_term 109 = .ok (.iconst 1, 1) := by decide +kernel
theorem dX11_term_110 : decode cX11_term 110 = .ok (.invokevirtual 80, 3) := by decide +kernel
theorem dX11_term_113 : decode cX11_term 113 = .ok (.ireturn, 1) := by decide +kernel
theorem dX11_termMany_0 : decode cX11_termMany 0 = .ok (.aload_n 0, 1) := by decide +kernel
theorem dX11_termMany_1 : decode cX11_termMany 1 = .ok (.getfield 7, 3) := by decide +kernel
theorem dX11_termMany_4 : decode cX11_termMany 4 = .ok (.iconst 1, 1) := by decide +kernel
theorem dX11_termMany_5 : decode cX11_termMany 5 = .ok (.iaload, 1) := by decide +kernel
theorem dX11_termMany_6 : decode cX11_termMany 6 = .ok (.ireturn, 1) := by decide +kernel
theorem dX11_oneMore_0 : decode cX11_oneMore 0 = .ok (.aload_n 0, 1) := by decide +kernel
theorem dX11_oneMore_1 : decode cX11_oneMore 1 = .ok (.getfield 7, 3) := by decide +kernel
theorem dX11_oneMore_4 : decode cX11_oneMore 4 = .ok (.iload_n 1, 1) := by decide +kernel
theorem dX11_oneMore_5 : decode cX11_oneMore 5 = .ok (.dup2, 1) := by decide +kernel
theorem dX11_oneMore_6 : decode cX11_oneMore 6 = .ok (.iaload, 1) := by decide +kernel
theorem dX11_oneMore_7 : decode cX11_oneMore 7 = .ok (.iconst 1, 1) := by decide +kernel
theorem dX11_oneMore_8 : decode cX11_oneMore 8 = .ok (.iadd, 1) := by decide +kernel
theorem dX11_oneMore_9 : decode cX11_oneMore 9 = .ok (.iastore, 1) := by decide +kernel
theorem dX11_oneMore_10 : decode cX11_oneMore 10 = .ok (.aload_n 0, 1) := by decide +kernel
theorem dX11_oneMore_11 : decode cX11_oneMore 11 = .ok (.getfield 7, 3) := by decide +kernel
theorem dX11_oneMore_14 : decode cX11_oneMore 14 = .ok (.iload_n 1, 1) := by decide +kernel
theorem dX11_oneMore_15 : decode cX11_oneMore 15 = .ok (.iaload, 1) := by decide +kernel
theorem dX11_oneMore_16 : decode cX11_oneMore 16 = .ok (.ireturn, 1) := by decide +kernel
theorem dX11_dropTerm_0 : decode cX11_dropTerm 0 = .ok (.iload_n 1, 1) := by decide +kernel
theorem dX11_dropTerm_1 : decode cX11_dropTerm 1 = .ok (.ifCond .ge 6, 3) := by decide +kernel
theorem dX11_dropTerm_4 : decode cX11_dropTerm 4 = .ok (.ldc 70, 2) := by decide +kernel
theorem dX11_dropTerm_6 : decode cX11_dropTerm 6 = .ok (.ireturn, 1) := by decide +kernel
theorem dX11_dropTerm_7 : decode cX11_dropTerm 7 = .ok (.iload_n 1, 1) := by decide +kernel
theorem dX11_dropTerm_8 : decode cX11_dropTerm 8 = .ok (.aload_n 0, 1) := by decide +kernel
theorem dX11_dropTerm_9 : decode cX11_dropTerm 9 = .ok (.getfield 7, 3) := by decide +kernel
theorem dX11_dropTerm_12 : decode cX11_dropTerm 12 = .ok (.iconst 1, 1) := by decide +kernel
theorem dX11_dropTerm_13 : decode cX11_dropTerm 13 = .ok (.iaload, 1) := by decide +kernel
theorem dX11_dropTerm_14 : decode cX11_dropTerm 14 = .ok (.if_icmp .lt 6, 3) := by decide +kernel
theorem dX11_dropTerm_17 : decode cX11_dropTerm 17 = .ok (.ldc 40, 2) := by decide +kernel
theorem dX11_dropTerm_19 : decode cX11_dropTerm 19 = .ok (.ireturn, 1) := by decide +kernel
theorem dX11_dropTerm_20 : decode cX11_dropTerm 20 = .ok (.aload_n 0, 1) := by decide +kernel
theorem dX11_dropTerm_21 : decode cX11_dropTerm 21 = .ok (.invokevirtual 45, 3) := by decide +kernel
theorem dX11_dropTerm_24 : decode cX11_dropTerm 24 = .ok (.aload_n 0, 1) := by decide +kernel
theorem dX11_dropTerm_25 : decode cX11_dropTerm 25 = .ok (.getfield 7, 3) := by decide +kernel
theorem dX11_dropTerm_28 : decode cX11_dropTerm 28 = .ok (.bipush 21, 2) := by decide +kernel
theorem dX11_dropTerm_30 : decode cX11_dropTerm 30 = .ok (.iconst 4, 1) := by decide +kernel
theorem dX11_dropTerm_31 : decode cX11_dropTerm 31 = .ok (.iload_n 1, 1) := by decide +kernel
theorem dX11_dropTerm_32 : decode cX11_dropTerm 32 = .ok (.imul, 1) := by decide +kernel
theorem dX11_dropTerm_33 : decode cX11_dropTerm 33 = .ok (.iadd, 1) := by decide +kernel
theorem dX11_dropTerm_34 : decode cX11_dropTerm 34 = .ok (.iaload, 1) := by decide +kernel
theorem dX11_dropTerm_35 : decode cX11_dropTerm 35 = .ok (.istore_n 2, 1) := by decide +kernel
theorem dX11_dropTerm_36 : decode cX11_dropTerm 36 = .ok (.aload_n 0, 1) := by decide +kernel
theorem dX11_dropTerm_37 : decode cX11_dropTerm 37 = .ok (.getfield 7, 3) := by decide +kernel
theorem dX11_dropTerm_40 : decode cX11_dropTerm 40 = .ok (.iconst 1, 1) := by decide +kernel
theorem dX11_dropTerm_41 : decode cX11_dropTerm 41 = .ok (.dup2, 1) := by decide +kernel
theorem dX11_dropTerm_42 : decode cX11_dropTerm 42 = .ok (.iaload, 1) := by decide +kernel
theorem dX11_dropTerm_43 : decode cX11_dropTerm 43 = .ok (.iconst 1, 1) := by decide +kernel
theorem dX11_dropTerm_44 : decode cX11_dropTerm 44 = .ok (.isub, 1) := by decide +kernel
theorem dX11_dropTerm_45 : decode cX11_dropTerm 45 = .ok (.iastore, 1) := by decide +kernel
theorem dX11_dropTerm_46 : decode cX11_dropTerm 46 = .ok (.bipush 21, 2) := by decide +kernel
theorem dX11_dropTerm_48 : decode cX11_dropTerm 48 = .ok (.iconst 4, 1) := by decide +kernel
theorem dX11_dropTerm_49 : decode cX11_dropTerm 49 = .ok (.iload_n 1, 1) := by decide +kernel
theorem dX11_dropTerm_50 : decode cX11_dropTerm 50 = .ok (.imul, 1) := by decide +kernel
theorem dX11_dropTerm_51 : decode cX11_dropTerm 51 = .ok (.iadd, 1) := by decide +kernel
theorem dX11_dropTerm_52 : decode cX11_dropTerm 52 = .ok (.istore_n 3, 1) := by decide +kernel
theorem dX11_dropTerm_53 : decode cX11_dropTerm 53 = .ok (.iload_n 3, 1) := by decide +kernel
theorem dX11_dropTerm_54 : decode cX11_dropTerm 54 = .ok (.bipush 21, 2) := by decide +kernel
theorem dX11_dropTerm_56 : decode cX11_dropTerm 56 = .ok (.iconst 4, 1) := by decide +kernel
theorem dX11_dropTerm_57 : decode cX11_dropTerm 57 = .ok (.aload_n 0, 1) := by decide +kernel
theorem dX11_dropTerm_58 : decode cX11_dropTerm 58 = .ok (.getfield 7, 3) := by decide +kernel
theorem dX11_dropTerm_61 : decode cX11_dropTerm 61 = .ok (.iconst 1, 1) := by decide +kernel
theorem dX11_dropTerm_62 : decode cX11_dropTerm 62 = .ok (.iaload, 1) := by decide +kernel
theorem dX11_dropTerm_63 : decode cX11_dropTerm 63 = .ok (.imul, 1) := by decide +kernel
theorem dX11_dropTerm_64 : decode cX11_dropTerm 64 = .ok (.iadd, 1) := by decide +kernel
theorem dX11_dropTerm_65 : decode cX11_dropTerm 65 = .ok (.if_icmp .ge 23, 3) := by decide +kernel
theorem dX11_dropTerm_68 : decode cX11_dropTerm 68 = .ok (.aload_n 0, 1) := by decide +kernel
theorem dX11_dropTerm_69 : decode cX11_dropTerm 69 = .ok (.getfield 7, 3) := by decide +kernel
theorem dX11_dropTerm_72 : decode cX11_dropTerm 72 = .ok (.iload_n 3, 1) := by decide +kernel
theorem dX11_dropTerm_73 : decode cX11_dropTerm 73 = .ok (.aload_n 0, 1) := by decide +kernel
theorem dX11_dropTerm_74 : decode cX11_dropTerm 74 = .ok (.getfield 7, 3) := by decide +kernel
theorem dX11_dropTerm_77 : decode cX11_dropTerm 77 = .ok (.iload_n 3, 1) := by decide +kernel
theorem dX11_dropTerm_78 : decode cX11_dropTerm 78 = .ok (.iconst 4, 1) := by decide +kernel
theorem dX11_dropTerm_79 : decode cX11_dropTerm 79 = .ok (.iadd, 1) := by decide +kernel
theorem dX11_dropTerm_80 : decode cX11_dropTerm 80 = .ok (.iaload, 1) := by decide +kernel
theorem dX11_dropTerm_81 : decode cX11_dropTerm 81 = .ok (.iastore, 1) := by decide +kernel
theorem dX11_dropTerm_82 : decode cX11_dropTerm 82 = .ok (.iinc 3 1, 3) := by decide +kernel
theorem dX11_dropTerm_85 : decode cX11_dropTerm 85 = .ok (.goto (-32), 3) := by decide +kernel
theorem dX11_dropTerm_88 : decode cX11_dropTerm 88 = .ok (.iload_n 2, 1) := by decide +kernel
theorem dX11_dropTerm_89 : decode cX11_dropTerm 89 = .ok (.ireturn, 1) := by decide +kernel
theorem dX11_isVariable_0 : decode cX11_isVariable 0 = .ok (.iload_n 1, 1) := by decide +kernel
theorem dX11_isVariable_1 : decode cX11_isVariable 1 = .ok (.iconst 0, 1) := by decide +kernel
theorem dX11_isVariable_2 : decode cX11_isVariable 2 = .ok (.aload_n 0, 1) := by decide +kernel
theorem dX11_isVariable_3 : decode cX11_isVariable 3 = .ok (.getfield 7, 3) := by decide +kernel
theorem dX11_isVariable_6 : decode cX11_isVariable 6 = .ok (.iconst 0, 1) := by decide +kernel
theorem dX11_isVariable_7 : decode cX11_isVariable 7 = .ok (.iaload, 1) := by decide +kernel
theorem dX11_isVariable_8 : decode cX11_isVariable 8 = .ok (.iconst 1, 1) := by decide +kernel
theorem dX11_isVariable_9 : decode cX11_isVariable 9 = .ok (.isub, 1) := by decide +kernel
theorem dX11_isVariable_10 : decode cX11_isVariable 10 = .ok (.invokestatic 48, 3) := by decide +kernel
theorem dX11_isVariable_13 : decode cX11_isVariable 13 = .ok (.ireturn, 1) := by decide +kernel
theorem dX11_isAllowed_0 : decode cX11_isAllowed 0 = .ok (.iload_n 1, 1) := by decide +kernel
theorem dX11_isAllowed_1 : decode cX11_isAllowed 1 = .ok (.aload_n 0, 1) := by decide +kernel
theorem dX11_isAllowed_2 : decode cX11_isAllowed 2 = .ok (.getfield 7, 3) := by decide +kernel
theorem dX11_isAllowed_5 : decode cX11_isAllowed 5 = .ok (.bipush 12, 2) := by decide +kernel
theorem dX11_isAllowed_7 : decode cX11_isAllowed 7 = .ok (.iaload, 1) := by decide +kernel
theorem dX11_isAllowed_8 : decode cX11_isAllowed 8 = .ok (.aload_n 0, 1) := by decide +kernel
theorem dX11_isAllowed_9 : decode cX11_isAllowed 9 = .ok (.getfield 7, 3) := by decide +kernel
theorem dX11_isAllowed_12 : decode cX11_isAllowed 12 = .ok (.bipush 15, 2) := by decide +kernel
theorem dX11_isAllowed_14 : decode cX11_isAllowed 14 = .ok (.iaload, 1) := by decide +kernel
theorem dX11_isAllowed_15 : decode cX11_isAllowed 15 = .ok (.invokestatic 48, 3) := by decide +kernel
theorem dX11_isAllowed_18 : decode cX11_isAllowed 18 = .ok (.ifCond .eq 49, 3) := by decide +kernel
theorem dX11_isAllowed_21 : decode cX11_isAllowed 21 = .ok (.iload_n 2, 1) := by decide +kernel
theorem dX11_isAllowed_22 : decode cX11_isAllowed 22 = .ok (.aload_n 0, 1) := by decide +kernel
theorem dX11_isAllowed_23 : decode cX11_isAllowed 23 = .ok (.getfield 7, 3) := by decide +kernel
theorem dX11_isAllowed_26 : decode cX11_isAllowed 26 = .ok (.bipush 13, 2) := by decide +kernel
theorem dX11_isAllowed_28 : decode cX11_isAllowed 28 = .ok (.iaload, 1) := by decide +kernel
theorem dX11_isAllowed_29 : decode cX11_isAllowed 29 = .ok (.aload_n 0, 1) := by decide +kernel
theorem dX11_isAllowed_30 : decode cX11_isAllowed 30 = .ok (.getfield 7, 3) := by decide +kernel
theorem dX11_isAllowed_33 : decode cX11_isAllowed 33 = .ok (.bipush 16, 2) := by decide +kernel
theorem dX11_isAllowed_35 : decode cX11_isAllowed 35 = .ok (.iaload, 1) := by decide +kernel
theorem dX11_isAllowed_36 : decode cX11_isAllowed 36 = .ok (.invokestatic 48, 3) := by decide +kernel
theorem dX11_isAllowed_39 : decode cX11_isAllowed 39 = .ok (.ifCond .eq 28, 3) := by decide +kernel
theorem dX11_isAllowed_42 : decode cX11_isAllowed 42 = .ok (.iload_n 3, 1) := by decide +kernel
theorem dX11_isAllowed_43 : decode cX11_isAllowed 43 = .ok (.aload_n 0, 1) := by decide +kernel
theorem dX11_isAllowed_44 : decode cX11_isAllowed 44 = .ok (.getfield 7, 3) := by decide +kernel
theorem dX11_isAllowed_47 : decode cX11_isAllowed 47 = .ok (.bipush 14, 2) := by decide +kernel
theorem dX11_isAllowed_49 : decode cX11_isAllowed 49 = .ok (.iaload, 1) := by decide +kernel
theorem dX11_isAllowed_50 : decode cX11_isAllowed 50 = .ok (.aload_n 0, 1) := by decide +kernel
theorem dX11_isAllowed_51 : decode cX11_isAllowed 51 = .ok (.getfield 7, 3) := by decide +kernel
theorem dX11_isAllowed_54 : decode cX11_isAllowed 54 = .ok (.bipush 17, 2) := by decide +kernel
theorem dX11_isAllowed_56 : decode cX11_isAllowed 56 = .ok (.iaload, 1) := by decide +kernel
theorem dX11_isAllowed_57 : decode cX11_isAllowed 57 = .ok (.invokestatic 48, 3) := by decide +kernel
theorem dX11_isAllowed_60 : decode cX11_isAllowed 60 = .ok (.ifCond .eq 7, 3) := by decide +kernel
theorem dX11_isAllowed_63 : decode cX11_isAllowed 63 = .ok (.iconst 1, 1) := by decide +kernel
theorem dX11_isAllowed_64 : decode cX11_isAllowed 64 = .ok (.goto 4, 3) := by decide +kernel
theorem dX11_isAllowed_67 : decode cX11_isAllowed 67 = .ok (.iconst 0, 1) := by decide +kernel
theorem dX11_isAllowed_68 : decode cX11_isAllowed 68 = .ok (.ireturn, 1) := by decide +kernel
theorem dX11_isHereAllowed_0 : decode cX11_isHereAllowed 0 = .ok (.aload_n 0, 1) := by decide +kernel
theorem dX11_isHereAllowed_1 : decode cX11_isHereAllowed 1 = .ok (.aload_n 0, 1) := by decide +kernel
theorem dX11_isHereAllowed_2 : decode cX11_isHereAllowed 2 = .ok (.getfield 7, 3) := by decide +kernel
theorem dX11_isHereAllowed_5 : decode cX11_isHereAllowed 5 = .ok (.bipush 18, 2) := by decide +kernel
theorem dX11_isHereAllowed_7 : decode cX11_isHereAllowed 7 = .ok (.iaload, 1) := by decide +kernel
theorem dX11_isHereAllowed_8 : decode cX11_isHereAllowed 8 = .ok (.aload_n 0, 1) := by decide +kernel
theorem dX11_isHereAllowed_9 : decode cX11_isHereAllowed 9 = .ok (.getfield 7, 3) := by decide +kernel
theorem dX11_isHereAllowed_12 : decode cX11_isHereAllowed 12 = .ok (.bipush 19, 2) := by decide +kernel
theorem dX11_isHereAllowed_14 : decode cX11_isHereAllowed 14 = .ok (.iaload, 1) := by decide +kernel
theorem dX11_isHereAllowed_15 : decode cX11_isHereAllowed 15 = .ok (.aload_n 0, 1) := by decide +kernel
theorem dX11_isHereAllowed_16 : decode cX11_isHereAllowed 16 = .ok (.getfield 7, 3) := by decide +kernel
theorem dX11_isHereAllowed_19 : decode cX11_isHereAllowed 19 = .ok (.bipush 20, 2) := by decide +kernel
theorem dX11_isHereAllowed_21 : decode cX11_isHereAllowed 21 = .ok (.iaload, 1) := by decide +kernel
theorem dX11_isHereAllowed_22 : decode cX11_isHereAllowed 22 = .ok (.invokevirtual 84, 3) := by decide +kernel
theorem dX11_isHereAllowed_25 : decode cX11_isHereAllowed 25 = .ok (.ireturn, 1) := by decide +kernel
theorem dX11_bound_0 : decode cX11_bound 0 = .ok (.aload_n 0, 1) := by decide +kernel
theorem dX11_bound_1 : decode cX11_bound 1 = .ok (.iload_n 1, 1) := by decide +kernel
theorem dX11_bound_2 : decode cX11_bound 2 = .ok (.invokevirtual 87, 3) := by decide +kernel
theorem dX11_bound_5 : decode cX11_bound 5 = .ok (.ifCond .eq 24, 3) := by decide +kernel
theorem dX11_bound_8 : decode cX11_bound 8 = .ok (.iload_n 2, 1) := by decide +kernel
theorem dX11_bound_9 : decode cX11_bound 9 = .ok (.bipush (-50), 2) := by decide +kernel
theorem dX11_bound_11 : decode cX11_bound 11 = .ok (.bipush 50, 2) := by decide +kernel
theorem dX11_bound_13 : decode cX11_bound 13 = .ok (.invokestatic 48, 3) := by decide +kernel
theorem dX11_bound_16 : decode cX11_bound 16 = .ok (.ifCond .eq 13, 3) := by decide +kernel
theorem dX11_bound_19 : decode cX11_bound 19 = .ok (.iload_n 3, 1) := by decide +kernel
theorem dX11_bound_20 : decode cX11_bound 20 = .ok (.iload_n 2, 1) := by decide +kernel
theorem dX11_bound_21 : decode cX11_bound 21 = .ok (.bipush 50, 2) := by decide +kernel
theorem dX11_bound_23 : decode cX11_bound 23 = .ok (.invokestatic 48, 3) := by decide +kernel
theorem dX11_bound_26 : decode cX11_bound 26 = .ok (.ifCond .ne 6, 3) := by decide +kernel
theorem dX11_bound_29 : decode cX11_bound 29 = .ok (.ldc 70, 2) := by decide +kernel
theorem dX11_bound_31 : decode cX11_bound 31 = .ok (.ireturn, 1) := by decide +kernel
theorem dX11_bound_32 : decode cX11_bound 32 = .ok (.aload_n 0, 1) := by decide +kernel
theorem dX11_bound_33 : decode cX11_bound 33 = .ok (.invokevirtual 45, 3) := by decide +kernel
theorem dX11_bound_36 : decode cX11_bound 36 = .ok (.aload_n 0, 1) := by decide +kernel
theorem dX11_bound_37 : decode cX11_bound 37 = .ok (.getfield 7, 3) := by decide +kernel
theorem dX11_bound_40 : decode cX11_bound 40 = .ok (.bipush 12, 2) := by decide +kernel
theorem dX11_bound_42 : decode cX11_bound 42 = .ok (.iload_n 1, 1) := by decide +kernel
theorem dX11_bound_43 : decode cX11_bound 43 = .ok (.iadd, 1) := by decide +kernel
theorem dX11_bound_44 : decode cX11_bound 44 = .ok (.iload_n 2, 1) := by decide +kernel
theorem dX11_bound_45 : decode cX11_bound 45 = .ok (.iastore, 1) := by decide +kernel
theorem dX11_bound_46 : decode cX11_bound 46 = .ok (.aload_n 0, 1) := by decide +kernel
theorem dX11_bound_47 : decode cX11_bound 47 = .ok (.getfield 7, 3) := by decide +kernel
theorem dX11_bound_50 : decode cX11_bound 50 = .ok (.bipush 15, 2) := by decide +kernel
theorem dX11_bound_52 : decode cX11_bound 52 = .ok (.iload_n 1, 1) := by decide +kernel
theorem dX11_bound_53 : decode cX11_bound 53 = .ok (.iadd, 1) := by decide +kernel
theorem dX11_bound_54 : decode cX11_bound 54 = .ok (.iload_n 3, 1) := by decide +kernel
theorem dX11_bound_55 : decode cX11_bound 55 = .ok (.iastore, 1) := by decide +kernel
theorem dX11_bound_56 : decode cX11_bound 56 = .ok (.aload_n 0, 1) := by decide +kernel
theorem dX11_bound_57 : decode cX11_bound 57 = .ok (.invokevirtual 91, 3) := by decide +kernel
theorem dX11_bound_60 : decode cX11_bound 60 = .ok (.ifCond .eq 7, 3) := by decide +kernel
theorem dX11_bound_63 : decode cX11_bound 63 = .ok (.iconst 1, 1) := by decide +kernel
theorem dX11_bound_64 : decode cX11_bound 64 = .ok (.goto 4, 3) := by decide +kernel
theorem dX11_bound_67 : decode cX11_bound 67 = .ok (.iconst 0, 1) := by decide +kernel
theorem dX11_bound_68 : decode cX11_bound 68 = .ok (.ireturn, 1) := by decide +kernel
theorem dX11_step_0 : decode cX11_step 0 = .ok (.aload_n 0, 1) := by decide +kernel
theorem dX11_step_1 : decode cX11_step 1 = .ok (.getfield 7, 3) := by decide +kernel
theorem dX11_step_4 : decode cX11_step 4 = .ok (.bipush 61, 2) := by decide +kernel
theorem dX11_step_6 : decode cX11_step 6 = .ok (.iconst 4, 1) := by decide +kernel
theorem dX11_step_7 : decode cX11_step 7 = .ok (.iload_n 1, 1) := by decide +kernel
theorem dX11_step_8 : decode cX11_step 8 = .ok (.imul, 1) := by decide +kernel
theorem dX11_step_9 : decode cX11_step 9 = .ok (.iadd, 1) := by decide +kernel
theorem dX11_step_10 : decode cX11_step 10 = .ok (.iload_n 2, 1) := by decide +kernel
theorem dX11_step_11 : decode cX11_step 11 = .ok (.iadd, 1) := by decide +kernel
theorem dX11_step_12 : decode cX11_step 12 = .ok (.iaload, 1) := by decide +kernel
theorem dX11_step_13 : decode cX11_step 13 = .ok (.ireturn, 1) := by decide +kernel
theorem dX11_directionMany_0 : decode cX11_directionMany 0 = .ok (.aload_n 0, 1) := by decide +kernel
theorem dX11_directionMany_1 : decode cX11_directionMany 1 = .ok (.getfield 7, 3) := by decide +kernel
theorem dX11_directionMany_4 : decode cX11_directionMany 4 = .ok (.iconst 2, 1) := by decide +kernel
theorem dX11_directionMany_5 : decode cX11_directionMany 5 = .ok (.iaload, 1) := by decide +kernel
theorem dX11_directionMany_6 : decode cX11_directionMany 6 = .ok (.ireturn, 1) := by decide +kernel
theorem dX11_putDirection_0 : decode cX11_putDirection 0 = .ok (.aload_n 0, 1) := by decide +kernel
theorem dX11_putDirection_1 : decode cX11_putDirection 1 = .ok (.getfield 7, 3) := by decide +kernel
theorem dX11_putDirection_4 : decode cX11_putDirection 4 = .ok (.bipush 61, 2) := by decide +kernel
theorem dX11_putDirection_6 : decode cX11_putDirection 6 = .ok (.iconst 4, 1) := by decide +kernel
theorem dX11_putDirection_7 : decode cX11_putDirection 7 = .ok (.iload_n 1, 1) := by decide +kernel
theorem dX11_putDirection_8 : decode cX11_putDirection 8 = .ok (.imul, 1) := by decide +kernel
theorem dX11_putDirection_9 : decode cX11_putDirection 9 = .ok (.iadd, 1) := by decide +kernel
theorem dX11_putDirection_10 : decode cX11_putDirection 10 = .ok (.iload_n 2, 1) := by decide +kernel
theorem dX11_putDirection_11 : decode cX11_putDirection 11 = .ok (.iastore, 1) := by decide +kernel
theorem dX11_putDirection_12 : decode cX11_putDirection 12 = .ok (.aload_n 0, 1) := by decide +kernel
theorem dX11_putDirection_13 : decode cX11_putDirection 13 = .ok (.getfield 7, 3) := by decide +kernel
theorem dX11_putDirection_16 : decode cX11_putDirection 16 = .ok (.bipush 61, 2) := by decide +kernel
theorem dX11_putDirection_18 : decode cX11_putDirection 18 = .ok (.iconst 4, 1) := by decide +kernel
theorem dX11_putDirection_19 : decode cX11_putDirection 19 = .ok (.iload_n 1, 1) := by decide +kernel
theorem dX11_putDirection_20 : decode cX11_putDirection 20 = .ok (.imul, 1) := by decide +kernel
theorem dX11_putDirection_21 : decode cX11_putDirection 21 = .ok (.iadd, 1) := by decide +kernel
theorem dX11_putDirection_22 : decode cX11_putDirection 22 = .ok (.iconst 1, 1) := by decide +kernel
theorem dX11_putDirection_23 : decode cX11_putDirection 23 = .ok (.iadd, 1) := by decide +kernel
theorem dX11_putDirection_24 : decode cX11_putDirection 24 = .ok (.iload_n 3, 1) := by decide +kernel
theorem dX11_putDirection_25 : decode cX11_putDirection 25 = .ok (.iastore, 1) := by decide +kernel
theorem dX11_putDirection_26 : decode cX11_putDirection 26 = .ok (.aload_n 0, 1) := by decide +kernel
theorem dX11_putDirection_27 : decode cX11_putDirection 27 = .ok (.getfield 7, 3) := by decide +kernel
theorem dX11_putDirection_30 : decode cX11_putDirection 30 = .ok (.bipush 61, 2) := by decide +kernel
theorem dX11_putDirection_32 : decode cX11_putDirection 32 = .ok (.iconst 4, 1) := by decide +kernel
theorem dX11_putDirection_33 : decode cX11_putDirection 33 = .ok (.iload_n 1, 1) := by decide +kernel
theorem dX11_putDirection_34 : decode cX11_putDirection 34 = .ok (.imul, 1) := by decide +kernel
theorem dX11_putDirection_35 : decode cX11_putDirection 35 = .ok (.iadd, 1) := by decide +kernel
theorem dX11_putDirection_36 : decode cX11_putDirection 36 = .ok (.iconst 2, 1) := by decide +kernel
theorem dX11_putDirection_37 : decode cX11_putDirection 37 = .ok (.iadd, 1) := by decide +kernel
theorem dX11_putDirection_38 : decode cX11_putDirection 38 = .ok (.iload 4, 2) := by decide +kernel
theorem dX11_putDirection_40 : decode cX11_putDirection 40 = .ok (.iastore, 1) := by decide +kernel
theorem dX11_putDirection_41 : decode cX11_putDirection 41 = .ok (.aload_n 0, 1) := by decide +kernel
theorem dX11_putDirection_42 : decode cX11_putDirection 42 = .ok (.getfield 7, 3) := by decide +kernel
theorem dX11_putDirection_45 : decode cX11_putDirection 45 = .ok (.bipush 61, 2) := by decide +kernel
theorem dX11_putDirection_47 : decode cX11_putDirection 47 = .ok (.iconst 4, 1) := by decide +kernel
theorem dX11_putDirection_48 : decode cX11_putDirection 48 = .ok (.iload_n 1, 1) := by decide +kernel
theorem dX11_putDirection_49 : decode cX11_putDirection 49 = .ok (.imul, 1) := by decide +kernel
theorem dX11_putDirection_50 : decode cX11_putDirection 50 = .ok (.iadd, 1) := by decide +kernel
theorem dX11_putDirection_51 : decode cX11_putDirection 51 = .ok (.iconst 3, 1) := by decide +kernel
theorem dX11_putDirection_52 : decode cX11_putDirection 52 = .ok (.iadd, 1) := by decide +kernel
theorem dX11_putDirection_53 : decode cX11_putDirection 53 = .ok (.iconst 0, 1) := by decide +kernel
theorem dX11_putDirection_54 : decode cX11_putDirection 54 = .ok (.iastore, 1) := by decide +kernel
theorem dX11_putDirection_55 : decode cX11_putDirection 55 = .ok (.return_, 1) := by decide +kernel
theorem dX11_direction_0 : decode cX11_direction 0 = .ok (.iload_n 1, 1) := by decide +kernel
theorem dX11_direction_1 : decode cX11_direction 1 = .ok (.bipush (-3), 2) := by decide +kernel
theorem dX11_direction_3 : decode cX11_direction 3 = .ok (.iconst 3, 1) := by decide +kernel
theorem dX11_direction_4 : decode cX11_direction 4 = .ok (.invokestatic 48, 3) := by decide +kernel
theorem dX11_direction_7 : decode cX11_direction 7 = .ok (.ifCond .eq 37, 3) := by decide +kernel
theorem dX11_direction_10 : decode cX11_direction 10 = .ok (.iload_n 2, 1) := by decide +kernel
theorem dX11_direction_11 : decode cX11_direction 11 = .ok (.bipush (-3), 2) := by decide +kernel
theorem dX11_direction_13 : decode cX11_direction 13 = .ok (.iconst 3, 1) := by decide +kernel
theorem dX11_direction_14 : decode cX11_direction 14 = .ok (.invokestatic 48, 3) := by decide +kernel
theorem dX11_direction_17 : decode cX11_direction 17 = .ok (.ifCond .eq 27, 3) := by decide +kernel
theorem dX11_direction_20 : decode cX11_direction 20 = .ok (.iload_n 3, 1) := by decide +kernel
theorem dX11_direction_21 : decode cX11_direction 21 = .ok (.bipush (-3), 2) := by decide +kernel
theorem dX11_direction_23 : decode cX11_direction 23 = .ok (.iconst 3, 1) := by decide +kernel
theorem dX11_direction_24 : decode cX11_direction 24 = .ok (.invokestatic 48, 3) := by decide +kernel
theorem dX11_direction_27 : decode cX11_direction 27 = .ok (.ifCond .eq 17, 3) := by decide +kernel
theorem dX11_direction_30 : decode cX11_direction 30 = .ok (.aload_n 0, 1) := by decide +kernel
theorem dX11_direction_31 : decode cX11_direction 31 = .ok (.iload_n 1, 1) := by decide +kernel
theorem dX11_direction_32 : decode cX11_direction 32 = .ok (.iload_n 2, 1) := by decide +kernel
theorem dX11_direction_33 : decode cX11_direction 33 = .ok (.iload_n 3, 1) := by decide +kernel
theorem dX11_direction_34 : decode cX11_direction 34 = .ok (.invokevirtual 52, 3) := by decide +kernel
theorem dX11_direction_37 : decode cX11_direction 37 = .ok (.ifCond .eq 7, 3) := by decide +kernel
theorem dX11_direction_40 : decode cX11_direction 40 = .ok (.iconst 1, 1) := by decide +kernel
theorem dX11_direction_41 : decode cX11_direction 41 = .ok (.goto 4, 3) := by decide +kernel
theorem dX11_direction_44 : decode cX11_direction 44 = .ok (.iconst 0, 1) := by decide +kernel
theorem dX11_direction_45 : decode cX11_direction 45 = .ok (.istore 4, 2) := by decide +kernel
theorem dX11_direction_47 : decode cX11_direction 47 = .ok (.iload 4, 2) := by decide +kernel
theorem dX11_direction_49 : decode cX11_direction 49 = .ok (.ifCond .eq 15, 3) := by decide +kernel
theorem dX11_direction_52 : decode cX11_direction 52 = .ok (.iload_n 1, 1) := by decide +kernel
theorem dX11_direction_53 : decode cX11_direction 53 = .ok (.ifCond .ne 14, 3) := by decide +kernel
theorem dX11_direction_56 : decode cX11_direction 56 = .ok (.iload_n 2, 1) := by decide +kernel
theorem dX11_direction_57 : decode cX11_direction 57 = .ok (.ifCond .ne 10, 3) := by decide +kernel
theorem dX11_direction_60 : decode cX11_direction 60 = .ok (.iload_n 3, 1) := by decide +kernel
theorem dX11_direction_61 : decode cX11_direction 61 = .ok (.ifCond .ne 6, 3) := by decide +kernel
theorem dX11_direction_64 : decode cX11_direction 64 = .ok (.ldc 70, 2) := by decide +kernel
theorem dX11_direction_66 : decode cX11_direction 66 = .ok (.ireturn, 1) := by decide +kernel
theorem dX11_direction_67 : decode cX11_direction 67 = .ok (.iconst 0, 1) := by decide +kernel
theorem dX11_direction_68 : decode cX11_direction 68 = .ok (.istore 5, 2) := by decide +kernel
theorem dX11_direction_70 : decode cX11_direction 70 = .ok (.iload 5, 2) := by decide +kernel
theorem dX11_direction_72 : decode cX11_direction 72 = .ok (.aload_n 0, 1) := by decide +kernel
theorem dX11_direction_73 : decode cX11_direction 73 = .ok (.invokevirtual 95, 3) := by decide +kernel
theorem dX11_direction_76 : decode cX11_direction 76 = .ok (.if_icmp .ge 45, 3) := by decide +kernel
theorem dX11_direction_79 : decode cX11_direction 79 = .ok (.aload_n 0, 1) := by decide +kernel
theorem dX11_direction_80 : decode cX11_direction 80 = .ok (.iload 5, 2) := by decide +kernel
theorem dX11_direction_82 : decode cX11_direction 82 = .ok (.iconst 0, 1) := by decide +kernel
theorem dX11_direction_83 : decode cX11_direction 83 = .ok (.invokevirtual 98, 3) := by decide +kernel
theorem dX11_direction_86 : decode cX11_direction 86 = .ok (.iload_n 1, 1) := by decide +kernel
theorem dX11_direction_87 : decode cX11_direction 87 = .ok (.if_icmp .ne 28, 3) := by decide +kernel
theorem dX11_direction_90 : decode cX11_direction 90 = .ok (.aload_n 0, 1) := by decide +kernel
theorem dX11_direction_91 : decode cX11_direction 91 = .ok (.iload 5, 2) := by decide +kernel
theorem dX11_direction_93 : decode cX11_direction 93 = .ok (.iconst 1, 1) := by decide +kernel
theorem dX11_direction_94 : decode cX11_direction 94 = .ok (.invokevirtual 98, 3) := by decide +kernel
theorem dX11_direction_97 : decode cX11_direction 97 = .ok (.iload_n 2, 1) := by decide +kernel
theorem dX11_direction_98 : decode cX11_direction 98 = .ok (.if_icmp .ne 17, 3) := by decide +kernel
theorem dX11_direction_101 : decode cX11_direction 101 = .ok (.aload_n 0, 1) := by decide +kernel
theorem dX11_direction_102 : decode cX11_direction 102 = .ok (.iload 5, 2) := by decide +kernel
theorem dX11_direction_104 : decode cX11_direction 104 = .ok (.iconst 2, 1) := by decide +kernel
theorem dX11_direction_105 : decode cX11_direction 105 = .ok (.invokevirtual 98, 3) := by decide +kernel
theorem dX11_direction_108 : decode cX11_direction 108 = .ok (.iload_n 3, 1) := by decide +kernel
theorem dX11_direction_109 : decode cX11_direction 109 = .ok (.if_icmp .ne 6, 3) := by decide +kernel
theorem dX11_direction_112 : decode cX11_direction 112 = .ok (.ldc 40, 2) := by decide +kernel
theorem dX11_direction_114 : decode cX11_direction 114 = .ok (.ireturn, 1) := by decide +kernel
theorem dX11_direction_115 : decode cX11_direction 115 = .ok (.iinc 5 1, 3) := by decide +kernel
theorem dX11_direction_118 : decode cX11_direction 118 = .ok (.goto (-48), 3) := by decide +kernel
theorem dX11_direction_121 : decode cX11_direction 121 = .ok (.aload_n 0, 1) := by decide +kernel
theorem dX11_direction_122 : decode cX11_direction 122 = .ok (.invokevirtual 95, 3) := by decide +kernel
theorem dX11_direction_125 : decode cX11_direction 125 = .ok (.bipush 8, 2) := by decide +kernel
theorem dX11_direction_127 : decode cX11_direction 127 = .ok (.if_icmp .ne 6, 3) := by decide +kernel
theorem dX11_direction_130 : decode cX11_direction 130 = .ok (.ldc 75, 2) := by decide +kernel
theorem dX11_direction_132 : decode cX11_direction 132 = .ok (.ireturn, 1) := by decide +kernel
theorem dX11_direction_133 : decode cX11_direction 133 = .ok (.aload_n 0, 1) := by decide +kernel
theorem dX11_direction_134 : decode cX11_direction 134 = .ok (.invokevirtual 45, 3) := by decide +kernel
theorem dX11_direction_137 : decode cX11_direction 137 = .ok (.aload_n 0, 1) := by decide +kernel
theorem dX11_direction_138 : decode cX11_direction 138 = .ok (.aload_n 0, 1) := by decide +kernel
theorem dX11_direction_139 : decode cX11_direction 139 = .ok (.invokevirtual 95, 3) := by decide +kernel
theorem dX11_direction_142 : decode cX11_direction 142 = .ok (.iload_n 1, 1) := by decide +kernel
theorem dX11_direction_143 : decode cX11_direction 143 = .ok (.iload_n 2, 1) := by decide +kernel
theorem dX11_direction_144 : decode cX11_direction 144 = .ok (.iload_n 3, 1) := by decide +kernel
theorem dX11_direction_145 : decode cX11_direction 145 = .ok (.invokevirtual 102, 3) := by decide +kernel
theorem dX11_direction_148 : decode cX11_direction 148 = .ok (.aload_n 0, 1) := by decide +kernel
theorem dX11_direction_149 : decode cX11_direction 149 = .ok (.iconst 2, 1) := by decide +kernel
theorem dX11_direction_150 : decode cX11_direction 150 = .ok (.invokevirtual 80, 3) := by decide +kernel
theorem dX11_direction_153 : decode cX11_direction 153 = .ok (.iconst 1, 1) := by decide +kernel
theorem dX11_direction_154 : decode cX11_direction 154 = .ok (.isub, 1) := by decide +kernel
theorem dX11_direction_155 : decode cX11_direction 155 = .ok (.ireturn, 1) := by decide +kernel
theorem dX11_dropDirection_0 : decode cX11_dropDirection 0 = .ok (.iload_n 1, 1) := by decide +kernel
theorem dX11_dropDirection_1 : decode cX11_dropDirection 1 = .ok (.ifCond .ge 6, 3) := by decide +kernel
theorem dX11_dropDirection_4 : decode cX11_dropDirection 4 = .ok (.ldc 70, 2) := by decide +kernel
theorem dX11_dropDirection_6 : decode cX11_dropDirection 6 = .ok (.ireturn, 1) := by decide +kernel
theorem dX11_dropDirection_7 : decode cX11_dropDirection 7 = .ok (.iload_n 1, 1) := by decide +kernel
theorem dX11_dropDirection_8 : decode cX11_dropDirection 8 = .ok (.aload_n 0, 1) := by decide +kernel
theorem dX11_dropDirection_9 : decode cX11_dropDirection 9 = .ok (.getfield 7, 3) := by decide +kernel
theorem dX11_dropDirection_12 : decode cX11_dropDirection 12 = .ok (.iconst 2, 1) := by decide +kernel
theorem dX11_dropDirection_13 : decode cX11_dropDirection 13 = .ok (.iaload, 1) := by decide +kernel
theorem dX11_dropDirection_14 : decode cX11_dropDirection 14 = .ok (.if_icmp .lt 6, 3) := by decide +kernel
theorem dX11_dropDirection_17 : decode cX11_dropDirection 17 = .ok (.ldc 40, 2) := by decide +kernel
theorem dX11_dropDirection_19 : decode cX11_dropDirection 19 = .ok (.ireturn, 1) := by decide +kernel
theorem dX11_dropDirection_20 : decode cX11_dropDirection 20 = .ok (.aload_n 0, 1) := by decide +kernel
theorem dX11_dropDirection_21 : decode cX11_dropDirection 21 = .ok (.invokevirtual 45, 3) := by decide +kernel
theorem dX11_dropDirection_24 : decode cX11_dropDirection 24 = .ok (.aload_n 0, 1) := by decide +kernel
theorem dX11_dropDirection_25 : decode cX11_dropDirection 25 = .ok (.getfield 7, 3) := by decide +kernel
theorem dX11_dropDirection_28 : decode cX11_dropDirection 28 = .ok (.iconst 2, 1) := by decide +kernel
theorem dX11_dropDirection_29 : decode cX11_dropDirection 29 = .ok (.dup2, 1) := by decide +kernel
theorem dX11_dropDirection_30 : decode cX11_dropDirection 30 = .ok (.iaload, 1) := by decide +kernel
theorem dX11_dropDirection_31 : decode cX11_dropDirection 31 = .ok (.iconst 1, 1) := by decide +kernel
theorem dX11_dropDirection_32 : decode cX11_dropDirection 32 = .ok (.isub, 1) := by decide +kernel
theorem dX11_dropDirection_33 : decode cX11_dropDirection 33 = .ok (.iastore, 1) := by decide +kernel
theorem dX11_dropDirection_34 : decode cX11_dropDirection 34 = .ok (.bipush 61, 2) := by decide +kernel
theorem dX11_dropDirection_36 : decode cX11_dropDirection 36 = .ok (.iconst 4, 1) := by decide +kernel
theorem dX11_dropDirection_37 : decode cX11_dropDirection 37 = .ok (.iload_n 1, 1) := by decide +kernel
theorem dX11_dropDirection_38 : decode cX11_dropDirection 38 = .ok (.imul, 1) := by decide +kernel
theorem dX11_dropDirection_39 : decode cX11_dropDirection 39 = .ok (.iadd, 1) := by decide +kernel
theorem dX11_dropDirection_40 : decode cX11_dropDirection 40 = .ok (.istore_n 2, 1) := by decide +kernel
theorem dX11_dropDirection_41 : decode cX11_dropDirection 41 = .ok (.iload_n 2, 1) := by decide +kernel
theorem dX11_dropDirection_42 : decode cX11_dropDirection 42 = .ok (.bipush 61, 2) := by decide +kernel
theorem dX11_dropDirection_44 : decode cX11_dropDirection 44 = .ok (.iconst 4, 1) := by decide +kernel
theorem dX11_dropDirection_45 : decode cX11_dropDirection 45 = .ok (.aload_n 0, 1) := by decide +kernel
theorem dX11_dropDirection_46 : decode cX11_dropDirection 46 = .ok (.getfield 7, 3) := by decide +kernel
theorem dX11_dropDirection_49 : decode cX11_dropDirection 49 = .ok (.iconst 2, 1) := by decide +kernel
theorem dX11_dropDirection_50 : decode cX11_dropDirection 50 = .ok (.iaload, 1) := by decide +kernel
theorem dX11_dropDirection_51 : decode cX11_dropDirection 51 = .ok (.imul, 1) := by decide +kernel
theorem dX11_dropDirection_52 : decode cX11_dropDirection 52 = .ok (.iadd, 1) := by decide +kernel
theorem dX11_dropDirection_53 : decode cX11_dropDirection 53 = .ok (.if_icmp .ge 23, 3) := by decide +kernel
theorem dX11_dropDirection_56 : decode cX11_dropDirection 56 = .ok (.aload_n 0, 1) := by decide +kernel
theorem dX11_dropDirection_57 : decode cX11_dropDirection 57 = .ok (.getfield 7, 3) := by decide +kernel
theorem dX11_dropDirection_60 : decode cX11_dropDirection 60 = .ok (.iload_n 2, 1) := by decide +kernel
theorem dX11_dropDirection_61 : decode cX11_dropDirection 61 = .ok (.aload_n 0, 1) := by decide +kernel
theorem dX11_dropDirection_62 : decode cX11_dropDirection 62 = .ok (.getfield 7, 3) := by decide +kernel
theorem dX11_dropDirection_65 : decode cX11_dropDirection 65 = .ok (.iload_n 2, 1) := by decide +kernel
theorem dX11_dropDirection_66 : decode cX11_dropDirection 66 = .ok (.iconst 4, 1) := by decide +kernel
theorem dX11_dropDirection_67 : decode cX11_dropDirection 67 = .ok (.iadd, 1) := by decide +kernel
theorem dX11_dropDirection_68 : decode cX11_dropDirection 68 = .ok (.iaload, 1) := by decide +kernel
theorem dX11_dropDirection_69 : decode cX11_dropDirection 69 = .ok (.iastore, 1) := by decide +kernel
theorem dX11_dropDirection_70 : decode cX11_dropDirection 70 = .ok (.iinc 2 1, 3) := by decide +kernel
theorem dX11_dropDirection_73 : decode cX11_dropDirection 73 = .ok (.goto (-32), 3) := by decide +kernel
theorem dX11_dropDirection_76 : decode cX11_dropDirection 76 = .ok (.aload_n 0, 1) := by decide +kernel
theorem dX11_dropDirection_77 : decode cX11_dropDirection 77 = .ok (.getfield 7, 3) := by decide +kernel
theorem dX11_dropDirection_80 : decode cX11_dropDirection 80 = .ok (.bipush 9, 2) := by decide +kernel
theorem dX11_dropDirection_82 : decode cX11_dropDirection 82 = .ok (.aload_n 0, 1) := by decide +kernel
theorem dX11_dropDirection_83 : decode cX11_dropDirection 83 = .ok (.getfield 7, 3) := by decide +kernel
theorem dX11_dropDirection_86 : decode cX11_dropDirection 86 = .ok (.bipush 9, 2) := by decide +kernel
theorem dX11_dropDirection_88 : decode cX11_dropDirection 88 = .ok (.iaload, 1) := by decide +kernel
theorem dX11_dropDirection_89 : decode cX11_dropDirection 89 = .ok (.iload_n 1, 1) := by decide +kernel
theorem dX11_dropDirection_90 : decode cX11_dropDirection 90 = .ok (.if_icmp .ne 7, 3) := by decide +kernel
theorem dX11_dropDirection_93 : decode cX11_dropDirection 93 = .ok (.iconst (-1), 1) := by decide +kernel
theorem dX11_dropDirection_94 : decode cX11_dropDirection 94 = .ok (.goto 33, 3) := by decide +kernel
theorem dX11_dropDirection_97 : decode cX11_dropDirection 97 = .ok (.aload_n 0, 1) := by decide +kernel
theorem dX11_dropDirection_98 : decode cX11_dropDirection 98 = .ok (.getfield 7, 3) := by decide +kernel
theorem dX11_dropDirection_101 : decode cX11_dropDirection 101 = .ok (.bipush 9, 2) := by decide +kernel
theorem dX11_dropDirection_103 : decode cX11_dropDirection 103 = .ok (.iaload, 1) := by decide +kernel
theorem dX11_dropDirection_104 : decode cX11_dropDirection 104 = .ok (.iload_n 1, 1) := by decide +kernel
theorem dX11_dropDirection_105 : decode cX11_dropDirection 105 = .ok (.if_icmp .le 15, 3) := by decide +kernel
theorem dX11_dropDirection_108 : decode cX11_dropDirection 108 = .ok (.aload_n 0, 1) := by decide +kernel
theorem dX11_dropDirection_109 : decode cX11_dropDirection 109 = .ok (.getfield 7, 3) := by decide +kernel
theorem dX11_dropDirection_112 : decode cX11_dropDirection 112 = .ok (.bipush 9, 2) := by decide +kernel
theorem dX11_dropDirection_114 : decode cX11_dropDirection 114 = .ok (.iaload, 1) := by decide +kernel
theorem dX11_dropDirection_115 : decode cX11_dropDirection 115 = .ok (.iconst 1, 1) := by decide +kernel
theorem dX11_dropDirection_116 : decode cX11_dropDirection 116 = .ok (.isub, 1) := by decide +kernel
theorem dX11_dropDirection_117 : decode cX11_dropDirection 117 = .ok (.goto 10, 3) := by decide +kernel
theorem dX11_dropDirection_120 : decode cX11_dropDirection 120 = .ok (.aload_n 0, 1) := by decide +kernel
theorem dX11_dropDirection_121 : decode cX11_dropDirection 121 = .ok (.getfield 7, 3) := by decide +kernel
theorem dX11_dropDirection_124 : decode cX11_dropDirection 124 = .ok (.bipush 9, 2) := by decide +kernel
theorem dX11_dropDirection_126 : decode cX11_dropDirection 126 = .ok (.iaload, 1) := by decide +kernel
theorem dX11_dropDirection_127 : decode cX11_dropDirection 127 = .ok (.iastore, 1) := by decide +kernel
theorem dX11_dropDirection_128 : decode cX11_dropDirection 128 = .ok (.aload_n 0, 1) := by decide +kernel
theorem dX11_dropDirection_129 : decode cX11_dropDirection 129 = .ok (.getfield 7, 3) := by decide +kernel
theorem dX11_dropDirection_132 : decode cX11_dropDirection 132 = .ok (.iconst 2, 1) := by decide +kernel
theorem dX11_dropDirection_133 : decode cX11_dropDirection 133 = .ok (.iaload, 1) := by decide +kernel
theorem dX11_dropDirection_134 : decode cX11_dropDirection 134 = .ok (.ireturn, 1) := by decide +kernel
theorem dX11_putPlace_0 : decode cX11_putPlace 0 = .ok (.aload_n 0, 1) := by decide +kernel
theorem dX11_putPlace_1 : decode cX11_putPlace 1 = .ok (.getfield 7, 3) := by decide +kernel
theorem dX11_putPlace_4 : decode cX11_putPlace 4 = .ok (.bipush 18, 2) := by decide +kernel
theorem dX11_putPlace_6 : decode cX11_putPlace 6 = .ok (.iload_n 1, 1) := by decide +kernel
theorem dX11_putPlace_7 : decode cX11_putPlace 7 = .ok (.iastore, 1) := by decide +kernel
theorem dX11_putPlace_8 : decode cX11_putPlace 8 = .ok (.aload_n 0, 1) := by decide +kernel
theorem dX11_putPlace_9 : decode cX11_putPlace 9 = .ok (.getfield 7, 3) := by decide +kernel
theorem dX11_putPlace_12 : decode cX11_putPlace 12 = .ok (.bipush 19, 2) := by decide +kernel
theorem dX11_putPlace_14 : decode cX11_putPlace 14 = .ok (.iload_n 2, 1) := by decide +kernel
theorem dX11_putPlace_15 : decode cX11_putPlace 15 = .ok (.iastore, 1) := by decide +kernel
theorem dX11_putPlace_16 : decode cX11_putPlace 16 = .ok (.aload_n 0, 1) := by decide +kernel
theorem dX11_putPlace_17 : decode cX11_putPlace 17 = .ok (.getfield 7, 3) := by decide +kernel
theorem dX11_putPlace_20 : decode cX11_putPlace 20 = .ok (.bipush 20, 2) := by decide +kernel
theorem dX11_putPlace_22 : decode cX11_putPlace 22 = .ok (.iload_n 3, 1) := by decide +kernel
theorem dX11_putPlace_23 : decode cX11_putPlace 23 = .ok (.iastore, 1) := by decide +kernel
theorem dX11_putPlace_24 : decode cX11_putPlace 24 = .ok (.return_, 1) := by decide +kernel
theorem dX11_clearSearch_0 : decode cX11_clearSearch 0 = .ok (.aload_n 0, 1) := by decide +kernel
theorem dX11_clearSearch_1 : decode cX11_clearSearch 1 = .ok (.getfield 7, 3) := by decide +kernel
theorem dX11_clearSearch_4 : decode cX11_clearSearch 4 = .ok (.iconst 3, 1) := by decide +kernel
theorem dX11_clearSearch_5 : decode cX11_clearSearch 5 = .ok (.iload_n 1, 1) := by decide +kernel
theorem dX11_clearSearch_6 : decode cX11_clearSearch 6 = .ok (.iastore, 1) := by decide +kernel
theorem dX11_clearSearch_7 : decode cX11_clearSearch 7 = .ok (.aload_n 0, 1) := by decide +kernel
theorem dX11_clearSearch_8 : decode cX11_clearSearch 8 = .ok (.getfield 7, 3) := by decide +kernel
theorem dX11_clearSearch_11 : decode cX11_clearSearch 11 = .ok (.bipush 6, 2) := by decide +kernel
theorem dX11_clearSearch_13 : decode cX11_clearSearch 13 = .ok (.iconst 0, 1) := by decide +kernel
theorem dX11_clearSearch_14 : decode cX11_clearSearch 14 = .ok (.iastore, 1) := by decide +kernel
theorem dX11_clearSearch_15 : decode cX11_clearSearch 15 = .ok (.aload_n 0, 1) := by decide +kernel
theorem dX11_clearSearch_16 : decode cX11_clearSearch 16 = .ok (.getfield 7, 3) := by decide +kernel
theorem dX11_clearSearch_19 : decode cX11_clearSearch 19 = .ok (.bipush 7, 2) := by decide +kernel
theorem dX11_clearSearch_21 : decode cX11_clearSearch 21 = .ok (.iconst 0, 1) := by decide +kernel
theorem dX11_clearSearch_22 : decode cX11_clearSearch 22 = .ok (.iastore, 1) := by decide +kernel
theorem dX11_clearSearch_23 : decode cX11_clearSearch 23 = .ok (.aload_n 0, 1) := by decide +kernel
theorem dX11_clearSearch_24 : decode cX11_clearSearch 24 = .ok (.getfield 7, 3) := by decide +kernel
theorem dX11_clearSearch_27 : decode cX11_clearSearch 27 = .ok (.bipush 8, 2) := by decide +kernel
theorem dX11_clearSearch_29 : decode cX11_clearSearch 29 = .ok (.iconst 0, 1) := by decide +kernel
theorem dX11_clearSearch_30 : decode cX11_clearSearch 30 = .ok (.iastore, 1) := by decide +kernel
theorem dX11_clearSearch_31 : decode cX11_clearSearch 31 = .ok (.aload_n 0, 1) := by decide +kernel
theorem dX11_clearSearch_32 : decode cX11_clearSearch 32 = .ok (.getfield 7, 3) := by decide +kernel
theorem dX11_clearSearch_35 : decode cX11_clearSearch 35 = .ok (.bipush 9, 2) := by decide +kernel
theorem dX11_clearSearch_37 : decode cX11_clearSearch 37 = .ok (.iconst (-1), 1) := by decide +kernel
theorem dX11_clearSearch_38 : decode cX11_clearSearch 38 = .ok (.iastore, 1) := by decide +kernel
theorem dX11_clearSearch_39 : decode cX11_clearSearch 39 = .ok (.aload_n 0, 1) := by decide +kernel
theorem dX11_clearSearch_40 : decode cX11_clearSearch 40 = .ok (.getfield 7, 3) := by decide +kernel
theorem dX11_clearSearch_43 : decode cX11_clearSearch 43 = .ok (.bipush 10, 2) := by decide +kernel
theorem dX11_clearSearch_45 : decode cX11_clearSearch 45 = .ok (.iconst 0, 1) := by decide +kernel
theorem dX11_clearSearch_46 : decode cX11_clearSearch 46 = .ok (.iastore, 1) := by decide +kernel
theorem dX11_clearSearch_47 : decode cX11_clearSearch 47 = .ok (.aload_n 0, 1) := by decide +kernel
theorem dX11_clearSearch_48 : decode cX11_clearSearch 48 = .ok (.getfield 7, 3) := by decide +kernel
theorem dX11_clearSearch_51 : decode cX11_clearSearch 51 = .ok (.bipush 11, 2) := by decide +kernel
theorem dX11_clearSearch_53 : decode cX11_clearSearch 53 = .ok (.iconst 0, 1) := by decide +kernel
theorem dX11_clearSearch_54 : decode cX11_clearSearch 54 = .ok (.iastore, 1) := by decide +kernel
theorem dX11_clearSearch_55 : decode cX11_clearSearch 55 = .ok (.iconst 0, 1) := by decide +kernel
theorem dX11_clearSearch_56 : decode cX11_clearSearch 56 = .ok (.istore_n 2, 1) := by decide +kernel
theorem dX11_clearSearch_57 : decode cX11_clearSearch 57 = .ok (.iload_n 2, 1) := by decide +kernel
theorem dX11_clearSearch_58 : decode cX11_clearSearch 58 = .ok (.bipush 8, 2) := by decide +kernel
theorem dX11_clearSearch_60 : decode cX11_clearSearch 60 = .ok (.if_icmp .ge 23, 3) := by decide +kernel
theorem dX11_clearSearch_63 : decode cX11_clearSearch 63 = .ok (.aload_n 0, 1) := by decide +kernel
theorem dX11_clearSearch_64 : decode cX11_clearSearch 64 = .ok (.getfield 7, 3) := by decide +kernel
theorem dX11_clearSearch_67 : decode cX11_clearSearch 67 = .ok (.bipush 61, 2) := by decide +kernel
theorem dX11_clearSearch_69 : decode cX11_clearSearch 69 = .ok (.iconst 4, 1) := by decide +kernel
theorem dX11_clearSearch_70 : decode cX11_clearSearch 70 = .ok (.iload_n 2, 1) := by decide +kernel
theorem dX11_clearSearch_71 : decode cX11_clearSearch 71 = .ok (.imul, 1) := by decide +kernel
theorem dX11_clearSearch_72 : decode cX11_clearSearch 72 = .ok (.iadd, 1) := by decide +kernel
theorem dX11_clearSearch_73 : decode cX11_clearSearch 73 = .ok (.iconst 3, 1) := by decide +kernel
theorem dX11_clearSearch_74 : decode cX11_clearSearch 74 = .ok (.iadd, 1) := by decide +kernel
theorem dX11_clearSearch_75 : decode cX11_clearSearch 75 = .ok (.iconst 0, 1) := by decide +kernel
theorem dX11_clearSearch_76 : decode cX11_clearSearch 76 = .ok (.iastore, 1) := by decide +kernel
theorem dX11_clearSearch_77 : decode cX11_clearSearch 77 = .ok (.iinc 2 1, 3) := by decide +kernel
theorem dX11_clearSearch_80 : decode cX11_clearSearch 80 = .ok (.goto (-23), 3) := by decide +kernel
theorem dX11_clearSearch_83 : decode cX11_clearSearch 83 = .ok (.return_, 1) := by decide +kernel
theorem dX11_start_0 : decode cX11_start 0 = .ok (.aload_n 0, 1) := by decide +kernel
theorem dX11_start_1 : decode cX11_start 1 = .ok (.iload_n 1, 1) := by decide +kernel
theorem dX11_start_2 : decode cX11_start 2 = .ok (.iload_n 2, 1) := by decide +kernel
theorem dX11_start_3 : decode cX11_start 3 = .ok (.iload_n 3, 1) := by decide +kernel
theorem dX11_start_4 : decode cX11_start 4 = .ok (.invokevirtual 59, 3) := by decide +kernel
theorem dX11_start_7 : decode cX11_start 7 = .ok (.ifCond .eq 13, 3) := by decide +kernel
theorem dX11_start_10 : decode cX11_start 10 = .ok (.iload 4, 2) := by decide +kernel
theorem dX11_start_12 : decode cX11_start 12 = .ok (.iconst 0, 1) := by decide +kernel
theorem dX11_start_13 : decode cX11_start 13 = .ok (.iconst 4, 1) := by decide +kernel
theorem dX11_start_14 : decode cX11_start 14 = .ok (.invokestatic 48, 3) := by decide +kernel
theorem dX11_start_17 : decode cX11_start 17 = .ok (.ifCond .ne 6, 3) := by decide +kernel
theorem dX11_start_20 : decode cX11_start 20 = .ok (.ldc 70, 2) := by decide +kernel
theorem dX11_start_22 : decode cX11_start 22 = .ok (.ireturn, 1) := by decide +kernel
theorem dX11_start_23 : decode cX11_start 23 = .ok (.aload_n 0, 1) := by decide +kernel
theorem dX11_start_24 : decode cX11_start 24 = .ok (.invokevirtual 45, 3) := by decide +kernel
theorem dX11_start_27 : decode cX11_start 27 = .ok (.aload_n 0, 1) := by decide +kernel
theorem dX11_start_28 : decode cX11_start 28 = .ok (.iload 4, 2) := by decide +kernel
theorem dX11_start_30 : decode cX11_start 30 = .ok (.invokevirtual 106, 3) := by decide +kernel
theorem dX11_start_33 : decode cX11_start 33 = .ok (.aload_n 0, 1) := by decide +kernel
theorem dX11_start_34 : decode cX11_start 34 = .ok (.iload_n 1, 1) := by decide +kernel
theorem dX11_start_35 : decode cX11_start 35 = .ok (.iload_n 2, 1) := by decide +kernel
theorem dX11_start_36 : decode cX11_start 36 = .ok (.iload_n 3, 1) := by decide +kernel
theorem dX11_start_37 : decode cX11_start 37 = .ok (.invokevirtual 109, 3) := by decide +kernel
theorem dX11_start_40 : decode cX11_start 40 = .ok (.aload_n 0, 1) := by decide +kernel
theorem dX11_start_41 : decode cX11_start 41 = .ok (.invokevirtual 91, 3) := by decide +kernel
theorem dX11_start_44 : decode cX11_start 44 = .ok (.ifCond .eq 7, 3) := by decide +kernel
theorem dX11_start_47 : decode cX11_start 47 = .ok (.iconst 1, 1) := by decide +kernel
theorem dX11_start_48 : decode cX11_start 48 = .ok (.goto 4, 3) := by decide +kernel
theorem dX11_start_51 : decode cX11_start 51 = .ok (.iconst 0, 1) := by decide +kernel
theorem dX11_start_52 : decode cX11_start 52 = .ok (.ireturn, 1) := by decide +kernel
theorem dX11_order_0 : decode cX11_order 0 = .ok (.iload_n 1, 1) := by decide +kernel
theorem dX11_order_1 : decode cX11_order 1 = .ok (.iconst 0, 1) := by decide +kernel
theorem dX11_order_2 : decode cX11_order 2 = .ok (.iconst 2, 1) := by decide +kernel
theorem dX11_order_3 : decode cX11_order 3 = .ok (.invokestatic 48, 3) := by decide +kernel
theorem dX11_order_6 : decode cX11_order 6 = .ok (.ifCond .eq 12, 3) := by decide +kernel
theorem dX11_order_9 : decode cX11_order 9 = .ok (.iload_n 2, 1) := by decide +kernel
theorem dX11_order_10 : decode cX11_order 10 = .ok (.iconst 0, 1) := by decide +kernel
theorem dX11_order_11 : decode cX11_order 11 = .ok (.iconst 1, 1) := by decide +kernel
theorem dX11_order_12 : decode cX11_order 12 = .ok (.invokestatic 48, 3) := by decide +kernel
theorem dX11_order_15 : decode cX11_order 15 = .ok (.ifCond .ne 6, 3) := by decide +kernel
theorem dX11_order_18 : decode cX11_order 18 = .ok (.ldc 70, 2) := by decide +kernel
theorem dX11_order_20 : decode cX11_order 20 = .ok (.ireturn, 1) := by decide +kernel
theorem dX11_order_21 : decode cX11_order 21 = .ok (.aload_n 0, 1) := by decide +kernel
theorem dX11_order_22 : decode cX11_order 22 = .ok (.invokevirtual 45, 3) := by decide +kernel
theorem dX11_order_25 : decode cX11_order 25 = .ok (.bipush 10, 2) := by decide +kernel
theorem dX11_order_27 : decode cX11_order 27 = .ok (.aload_n 0, 1) := by decide +kernel
theorem dX11_order_28 : decode cX11_order 28 = .ok (.getfield 7, 3) := by decide +kernel
theorem dX11_order_31 : decode cX11_order 31 = .ok (.iconst 4, 1) := by decide +kernel
theorem dX11_order_32 : decode cX11_order 32 = .ok (.iaload, 1) := by decide +kernel
theorem dX11_order_33 : decode cX11_order 33 = .ok (.imul, 1) := by decide +kernel
theorem dX11_order_34 : decode cX11_order 34 = .ok (.aload_n 0, 1) := by decide +kernel
theorem dX11_order_35 : decode cX11_order 35 = .ok (.getfield 7, 3) := by decide +kernel
theorem dX11_order_38 : decode cX11_order 38 = .ok (.iconst 5, 1) := by decide +kernel
theorem dX11_order_39 : decode cX11_order 39 = .ok (.iaload, 1) := by decide +kernel
theorem dX11_order_40 : decode cX11_order 40 = .ok (.iadd, 1) := by decide +kernel
theorem dX11_order_41 : decode cX11_order 41 = .ok (.istore_n 3, 1) := by decide +kernel
theorem dX11_order_42 : decode cX11_order 42 = .ok (.aload_n 0, 1) := by decide +kernel
theorem dX11_order_43 : decode cX11_order 43 = .ok (.getfield 7, 3) := by decide +kernel
theorem dX11_order_46 : decode cX11_order 46 = .ok (.iconst 4, 1) := by decide +kernel
theorem dX11_order_47 : decode cX11_order 47 = .ok (.iload_n 1, 1) := by decide +kernel
theorem dX11_order_48 : decode cX11_order 48 = .ok (.iastore, 1) := by decide +kernel
theorem dX11_order_49 : decode cX11_order 49 = .ok (.aload_n 0, 1) := by decide +kernel
theorem dX11_order_50 : decode cX11_order 50 = .ok (.getfield 7, 3) := by decide +kernel
theorem dX11_order_53 : decode cX11_order 53 = .ok (.iconst 5, 1) := by decide +kernel
theorem dX11_order_54 : decode cX11_order 54 = .ok (.iload_n 2, 1) := by decide +kernel
theorem dX11_order_55 : decode cX11_order 55 = .ok (.iastore, 1) := by decide +kernel
theorem dX11_order_56 : decode cX11_order 56 = .ok (.iload_n 3, 1) := by decide +kernel
theorem dX11_order_57 : decode cX11_order 57 = .ok (.ireturn, 1) := by decide +kernel
theorem dX11_trialAt_0 : decode cX11_trialAt 0 = .ok (.aload_n 0, 1) := by decide +kernel
theorem dX11_trialAt_1 : decode cX11_trialAt 1 = .ok (.getfield 7, 3) := by decide +kernel
theorem dX11_trialAt_4 : decode cX11_trialAt 4 = .ok (.bipush 18, 2) := by decide +kernel
theorem dX11_trialAt_6 : decode cX11_trialAt 6 = .ok (.iload_n 2, 1) := by decide +kernel
theorem dX11_trialAt_7 : decode cX11_trialAt 7 = .ok (.iadd, 1) := by decide +kernel
theorem dX11_trialAt_8 : decode cX11_trialAt 8 = .ok (.iaload, 1) := by decide +kernel
theorem dX11_trialAt_9 : decode cX11_trialAt 9 = .ok (.iload_n 3, 1) := by decide +kernel
theorem dX11_trialAt_10 : decode cX11_trialAt 10 = .ok (.aload_n 0, 1) := by decide +kernel
theorem dX11_trialAt_11 : decode cX11_trialAt 11 = .ok (.iload_n 1, 1) := by decide +kernel
theorem dX11_trialAt_12 : decode cX11_trialAt 12 = .ok (.iload_n 2, 1) := by decide +kernel
theorem dX11_trialAt_13 : decode cX11_trialAt 13 = .ok (.invokevirtual 98, 3) := by decide +kernel
theorem dX11_trialAt_16 : decode cX11_trialAt 16 = .ok (.imul, 1) := by decide +kernel
theorem dX11_trialAt_17 : decode cX11_trialAt 17 = .ok (.iadd, 1) := by decide +kernel
theorem dX11_trialAt_18 : decode cX11_trialAt 18 = .ok (.ireturn, 1) := by decide +kernel
theorem dX11_isTrialAllowed_0 : decode cX11_isTrialAllowed 0 = .ok (.aload_n 0, 1) := by decide +kernel
theorem dX11_isTrialAllowed_1 : decode cX11_isTrialAllowed 1 = .ok (.aload_n 0, 1) := by decide +kernel
theorem dX11_isTrialAllowed_2 : decode cX11_isTrialAllowed 2 = .ok (.iload_n 1, 1) := by decide +kernel
theorem dX11_isTrialAllowed_3 : decode cX11_isTrialAllowed 3 = .ok (.iconst 0, 1) := by decide +kernel
theorem dX11_isTrialAllowed_4 : decode cX11_isTrialAllowed 4 = .ok (.iload_n 2, 1) := by decide +kernel
theorem dX11_isTrialAllowed_5 : decode cX11_isTrialAllowed 5 = .ok (.invokevirtual 113, 3) := by decide +kernel
theorem dX11_isTrialAllowed_8 : decode cX11_isTrialAllowed 8 = .ok (.aload_n 0, 1) := by decide +kernel
theorem dX11_isTrialAllowed_9 : decode cX11_isTrialAllowed 9 = .ok (.iload_n 1, 1) := by decide +kernel
theorem dX11_isTrialAllowed_10 : decode cX11_isTrialAllowed 10 = .ok (.iconst 1, 1) := by decide +kernel
theorem dX11_isTrialAllowed_11 : decode cX11_isTrialAllowed 11 = .ok (.iload_n 2, 1) := by decide +kernel
theorem dX11_isTrialAllowed_12 : decode cX11_isTrialAllowed 12 = .ok (.invokevirtual 113, 3) := by decide +kernel
theorem dX11_isTrialAllowed_15 : decode cX11_isTrialAllowed 15 = .ok (.aload_n 0, 1) := by decide +kernel
theorem dX11_isTrialAllowed_16 : decode cX11_isTrialAllowed 16 = .ok (.iload_n 1, 1) := by decide +kernel
theorem dX11_isTrialAllowed_17 : decode cX11_isTrialAllowed 17 = .ok (.iconst 2, 1) := by decide +kernel
theorem dX11_isTrialAllowed_18 : decode cX11_isTrialAllowed 18 = .ok (.iload_n 2, 1) := by decide +kernel
theorem dX11_isTrialAllowed_19 : decode cX11_isTrialAllowed 19 = .ok (.invokevirtual 113, 3) := by decide +kernel
theorem dX11_isTrialAllowed_22 : decode cX11_isTrialAllowed 22 = .ok (.invokevirtual 84, 3) := by decide +kernel
theorem dX11_isTrialAllowed_25 : decode cX11_isTrialAllowed 25 = .ok (.ireturn, 1) := by decide +kernel
theorem dX11_trialValue_0 : decode cX11_trialValue 0 = .ok (.aload_n 0, 1) := by decide +kernel
theorem dX11_trialValue_1 : decode cX11_trialValue 1 = .ok (.aload_n 0, 1) := by decide +kernel
theorem dX11_trialValue_2 : decode cX11_trialValue 2 = .ok (.iload_n 1, 1) := by decide +kernel
theorem dX11_trialValue_3 : decode cX11_trialValue 3 = .ok (.iconst 0, 1) := by decide +kernel
theorem dX11_trialValue_4 : decode cX11_trialValue 4 = .ok (.iload_n 2, 1) := by decide +kernel
theorem dX11_trialValue_5 : decode cX11_trialValue 5 = .ok (.invokevirtual 113, 3) := by decide +kernel
theorem dX11_trialValue_8 : decode cX11_trialValue 8 = .ok (.aload_n 0, 1) := by decide +kernel
theorem dX11_trialValue_9 : decode cX11_trialValue 9 = .ok (.iload_n 1, 1) := by decide +kernel
theorem dX11_trialValue_10 : decode cX11_trialValue 10 = .ok (.iconst 1, 1) := by decide +kernel
theorem dX11_trialValue_11 : decode cX11_trialValue 11 = .ok (.iload_n 2, 1) := by decide +kernel
theorem dX11_trialValue_12 : decode cX11_trialValue 12 = .ok (.invokevirtual 113, 3) := by decide +kernel
theorem dX11_trialValue_15 : decode cX11_trialValue 15 = .ok (.aload_n 0, 1) := by decide +kernel
theorem dX11_trialValue_16 : decode cX11_trialValue 16 = .ok (.iload_n 1, 1) := by decide +kernel
theorem dX11_trialValue_17 : decode cX11_trialValue 17 = .ok (.iconst 2, 1) := by decide +kernel
theorem dX11_trialValue_18 : decode cX11_trialValue 18 = .ok (.iload_n 2, 1) := by decide +kernel
theorem dX11_trialValue_19 : decode cX11_trialValue 19 = .ok (.invokevirtual 113, 3) := by decide +kernel
theorem dX11_trialValue_22 : decode cX11_trialValue 22 = .ok (.iload_n 3, 1) := by decide +kernel
theorem dX11_trialValue_23 : decode cX11_trialValue 23 = .ok (.invokevirtual 64, 3) := by decide +kernel
theorem dX11_trialValue_26 : decode cX11_trialValue 26 = .ok (.lreturn, 1) := by decide +kernel
theorem dX11_valueHere_0 : decode cX11_valueHere 0 = .ok (.aload_n 0, 1) := by decide +kernel
theorem dX11_valueHere_1 : decode cX11_valueHere 1 = .ok (.aload_n 0, 1) := by decide +kernel
theorem dX11_valueHere_2 : decode cX11_valueHere 2 = .ok (.getfield 7, 3) := by decide +kernel
theorem dX11_valueHere_5 : decode cX11_valueHere 5 = .ok (.bipush 18, 2) := by decide +kernel
theorem dX11_valueHere_7 : decode cX11_valueHere 7 = .ok (.iaload, 1) := by decide +kernel
theorem dX11_valueHere_8 : decode cX11_valueHere 8 = .ok (.aload_n 0, 1) := by decide +kernel
theorem dX11_valueHere_9 : decode cX11_valueHere 9 = .ok (.getfield 7, 3) := by decide +kernel
theorem dX11_valueHere_12 : decode cX11_valueHere 12 = .ok (.bipush 19, 2) := by decide +kernel
theorem dX11_valueHere_14 : decode cX11_valueHere 14 = .ok (.iaload, 1) := by decide +kernel
theorem dX11_valueHere_15 : decode cX11_valueHere 15 = .ok (.aload_n 0, 1) := by decide +kernel
theorem dX11_valueHere_16 : decode cX11_valueHere 16 = .ok (.getfield 7, 3) := by decide +kernel
theorem dX11_valueHere_19 : decode cX11_valueHere 19 = .ok (.bipush 20, 2) := by decide +kernel
theorem dX11_valueHere_21 : decode cX11_valueHere 21 = .ok (.iaload, 1) := by decide +kernel
theorem dX11_valueHere_22 : decode cX11_valueHere 22 = .ok (.iconst 0, 1) := by decide +kernel
theorem dX11_valueHere_23 : decode cX11_valueHere 23 = .ok (.invokevirtual 64, 3) := by decide +kernel
theorem dX11_valueHere_26 : decode cX11_valueHere 26 = .ok (.lreturn, 1) := by decide +kernel
theorem dX11_isAhead_0 : decode cX11_isAhead 0 = .ok (.aload_n 0, 1) := by decide +kernel
theorem dX11_isAhead_1 : decode cX11_isAhead 1 = .ok (.getfield 7, 3) := by decide +kernel
theorem dX11_isAhead_4 : decode cX11_isAhead 4 = .ok (.iconst 4, 1) := by decide +kernel
theorem dX11_isAhead_5 : decode cX11_isAhead 5 = .ok (.iaload, 1) := by decide +kernel
theorem dX11_isAhead_6 : decode cX11_isAhead 6 = .ok (.iconst 2, 1) := by decide +kernel
theorem dX11_isAhead_7 : decode cX11_isAhead 7 = .ok (.if_icmp .ne 27, 3) := by decide +kernel
theorem dX11_isAhead_10 : decode cX11_isAhead 10 = .ok (.aload_n 0, 1) := by decide +kernel
theorem dX11_isAhead_11 : decode cX11_isAhead 11 = .ok (.iload_n 1, 1) := by decide +kernel
theorem dX11_isAhead_12 : decode cX11_isAhead 12 = .ok (.iload_n 3, 1) := by decide +kernel
theorem dX11_isAhead_13 : decode cX11_isAhead 13 = .ok (.iconst 1, 1) := by decide +kernel
theorem dX11_isAhead_14 : decode cX11_isAhead 14 = .ok (.invokevirtual 117, 3) := by decide +kernel
theorem dX11_isAhead_17 : decode cX11_isAhead 17 = .ok (.aload_n 0, 1) := by decide +kernel
theorem dX11_isAhead_18 : decode cX11_isAhead 18 = .ok (.iload_n 2, 1) := by decide +kernel
theorem dX11_isAhead_19 : decode cX11_isAhead 19 = .ok (.iload_n 3, 1) := by decide +kernel
theorem dX11_isAhead_20 : decode cX11_isAhead 20 = .ok (.iconst 1, 1) := by decide +kernel
theorem dX11_isAhead_21 : decode cX11_isAhead 21 = .ok (.invokevirtual 117, 3) := by decide +kernel
theorem dX11_isAhead_24 : decode cX11_isAhead 24 = .ok (.lcmp, 1) := by decide +kernel
theorem dX11_isAhead_25 : decode cX11_isAhead 25 = .ok (.ifCond .ge 7, 3) := by decide +kernel
theorem dX11_isAhead_28 : decode cX11_isAhead 28 = .ok (.iconst 1, 1) := by decide +kernel
theorem dX11_isAhead_29 : decode cX11_isAhead 29 = .ok (.goto 4, 3) := by decide +kernel
theorem dX11_isAhead_32 : decode cX11_isAhead 32 = .ok (.iconst 0, 1) := by decide +kernel
theorem dX11_isAhead_33 : decode cX11_isAhead 33 = .ok (.ireturn, 1) := by decide +kernel
theorem dX11_isAhead_34 : decode cX11_isAhead 34 = .ok (.aload_n 0, 1) := by decide +kernel
theorem dX11_isAhead_35 : decode cX11_isAhead 35 = .ok (.getfield 7, 3) := by decide +kernel
theorem dX11_isAhead_38 : decode cX11_isAhead 38 = .ok (.iconst 4, 1) := by decide +kernel
theorem dX11_isAhead_39 : decode cX11_isAhead 39 = .ok (.iaload, 1) := by decide +kernel
theorem dX11_isAhead_40 : decode cX11_isAhead 40 = .ok (.iconst 1, 1) := by decide +kernel
theorem dX11_isAhead_41 : decode cX11_isAhead 41 = .ok (.if_icmp .ne 18, 3) := by decide +kernel
theorem dX11_isAhead_44 : decode cX11_isAhead 44 = .ok (.iload_n 1, 1) := by decide +kernel
theorem dX11_isAhead_45 : decode cX11_isAhead 45 = .ok (.aload_n 0, 1) := by decide +kernel
theorem dX11_isAhead_46 : decode cX11_isAhead 46 = .ok (.getfield 7, 3) := by decide +kernel
theorem dX11_isAhead_49 : decode cX11_isAhead 49 = .ok (.bipush 9, 2) := by decide +kernel
theorem dX11_isAhead_51 : decode cX11_isAhead 51 = .ok (.iaload, 1) := by decide +kernel
theorem dX11_isAhead_52 : decode cX11_isAhead 52 = .ok (.if_icmp .ne 7, 3) := by decide +kernel
theorem dX11_isAhead_55 : decode cX11_isAhead 55 = .ok (.iconst 1, 1) := by decide +kernel
theorem dX11_isAhead_56 : decode cX11_isAhead 56 = .ok (.goto 4, 3) := by decide +kernel
theorem dX11_isAhead_59 : decode cX11_isAhead 59 = .ok (.iconst 0, 1) := by decide +kernel
theorem dX11_isAhead_60 : decode cX11_isAhead 60 = .ok (.ireturn, 1) := by decide +kernel
theorem dX11_layRow_0 : decode cX11_layRow 0 = .ok (.iconst 1, 1) := by decide +kernel
theorem dX11_layRow_1 : decode cX11_layRow 1 = .ok (.aload_n 0, 1) := by decide +kernel
theorem dX11_layRow_2 : decode cX11_layRow 2 = .ok (.getfield 7, 3) := by decide +kernel
theorem dX11_layRow_5 : decode cX11_layRow 5 = .ok (.iconst 3, 1) := by decide +kernel
theorem dX11_layRow_6 : decode cX11_layRow 6 = .ok (.iaload, 1) := by decide +kernel
theorem dX11_layRow_7 : decode cX11_layRow 7 = .ok (.ishl, 1) := by decide +kernel
theorem dX11_layRow_8 : decode cX11_layRow 8 = .ok (.istore_n 1, 1) := by decide +kernel
theorem dX11_layRow_9 : decode cX11_layRow 9 = .ok (.iconst 0, 1) := by decide +kernel
theorem dX11_layRow_10 : decode cX11_layRow 10 = .ok (.istore_n 2, 1) := by decide +kernel
theorem dX11_layRow_11 : decode cX11_layRow 11 = .ok (.aload_n 0, 1) := by decide +kernel
theorem dX11_layRow_12 : decode cX11_layRow 12 = .ok (.iconst 0, 1) := by decide +kernel
theorem dX11_layRow_13 : decode cX11_layRow 13 = .ok (.putfield 121, 3) := by decide +kernel
theorem dX11_layRow_16 : decode cX11_layRow 16 = .ok (.iconst 0, 1) := by decide +kernel
theorem dX11_layRow_17 : decode cX11_layRow 17 = .ok (.istore_n 3, 1) := by decide +kernel
theorem dX11_layRow_18 : decode cX11_layRow 18 = .ok (.iload_n 3, 1) := by decide +kernel
theorem dX11_layRow_19 : decode cX11_layRow 19 = .ok (.aload_n 0, 1) := by decide +kernel
theorem dX11_layRow_20 : decode cX11_layRow 20 = .ok (.getfield 7, 3) := by decide +kernel
theorem dX11_layRow_23 : decode cX11_layRow 23 = .ok (.iconst 2, 1) := by decide +kernel
theorem dX11_layRow_24 : decode cX11_layRow 24 = .ok (.iaload, 1) := by decide +kernel
theorem dX11_layRow_25 : decode cX11_layRow 25 = .ok (.if_icmp .ge 122, 3) := by decide +kernel
theorem dX11_layRow_28 : decode cX11_layRow 28 = .ok (.iconst (-1), 1) := by decide +kernel
theorem dX11_layRow_29 : decode cX11_layRow 29 = .ok (.istore 4, 2) := by decide +kernel
theorem dX11_layRow_31 : decode cX11_layRow 31 = .ok (.iconst 0, 1) := by decide +kernel
theorem dX11_layRow_32 : decode cX11_layRow 32 = .ok (.istore 5, 2) := by decide +kernel
theorem dX11_layRow_34 : decode cX11_layRow 34 = .ok (.iload 5, 2) := by decide +kernel
theorem dX11_layRow_36 : decode cX11_layRow 36 = .ok (.aload_n 0, 1) := by decide +kernel
theorem dX11_layRow_37 : decode cX11_layRow 37 = .ok (.getfield 7, 3) := by decide +kernel
theorem dX11_layRow_40 : decode cX11_layRow 40 = .ok (.iconst 2, 1) := by decide +kernel
theorem dX11_layRow_41 : decode cX11_layRow 41 = .ok (.iaload, 1) := by decide +kernel
theorem dX11_layRow_42 : decode cX11_layRow 42 = .ok (.if_icmp .ge 66, 3) := by decide +kernel
theorem dX11_layRow_45 : decode cX11_layRow 45 = .ok (.iload_n 2, 1) := by decide +kernel
theorem dX11_layRow_46 : decode cX11_layRow 46 = .ok (.iload 5, 2) := by decide +kernel
theorem dX11_layRow_48 : decode cX11_layRow 48 = .ok (.ishr, 1) := by decide +kernel
theorem dX11_layRow_49 : decode cX11_layRow 49 = .ok (.iconst 1, 1) := by decide +kernel
theorem dX11_layRow_50 : decode cX11_layRow 50 = .ok (.iand, 1) := by decide +kernel
theorem dX11_layRow_51 : decode cX11_layRow 51 = .ok (.ifCond .ne 17, 3) := by decide +kernel
theorem dX11_layRow_54 : decode cX11_layRow 54 = .ok (.aload_n 0, 1) := by decide +kernel
theorem dX11_layRow_55 : decode cX11_layRow 55 = .ok (.iload 5, 2) := by decide +kernel
theorem dX11_layRow_57 : decode cX11_layRow 57 = .ok (.iload_n 1, 1) := by decide +kernel
theorem dX11_layRow_58 : decode cX11_layRow 58 = .ok (.invokevirtual 124, 3) := by decide +kernel
theorem dX11_layRow_61 : decode cX11_layRow 61 = .ok (.ifCond .eq 7, 3) := by decide +kernel
theorem dX11_layRow_64 : decode cX11_layRow 64 = .ok (.iconst 1, 1) := by decide +kernel
theorem dX11_layRow_65 : decode cX11_layRow 65 = .ok (.goto 4, 3) := by decide +kernel
theorem dX11_layRow_68 : decode cX11_layRow 68 = .ok (.iconst 0, 1) := by decide +kernel
theorem dX11_layRow_69 : decode cX11_layRow 69 = .ok (.istore 6, 2) := by decide +kernel
theorem dX11_layRow_71 : decode cX11_layRow 71 = .ok (.iload 6, 2) := by decide +kernel
theorem dX11_layRow_73 : decode cX11_layRow 73 = .ok (.ifCond .eq 25, 3) := by decide +kernel
theorem dX11_layRow_76 : decode cX11_layRow 76 = .ok (.iload 4, 2) := by decide +kernel
theorem dX11_layRow_78 : decode cX11_layRow 78 = .ok (.ifCond .lt 15, 3) := by decide +kernel
theorem dX11_layRow_81 : decode cX11_layRow 81 = .ok (.aload_n 0, 1) := by decide +kernel
theorem dX11_layRow_82 : decode cX11_layRow 82 = .ok (.iload 5, 2) := by decide +kernel
theorem dX11_layRow_84 : decode cX11_layRow 84 = .ok (.iload 4, 2) := by decide +kernel
theorem dX11_layRow_86 : decode cX11_layRow 86 = .ok (.iload_n 1, 1) := by decide +kernel
theorem dX11_layRow_87 : decode cX11_layRow 87 = .ok (.invokevirtual 128, 3) := by decide +kernel
theorem dX11_layRow_90 : decode cX11_layRow 90 = .ok (.ifCond .eq 8, 3) := by decide +kernel
theorem dX11_layRow_93 : decode cX11_layRow 93 = .ok (.iload 5, 2) := by decide +kernel
theorem dX11_layRow_95 : decode cX11_layRow 95 = .ok (.goto 5, 3) := by decide +kernel
theorem dX11_layRow_98 : decode cX11_layRow 98 = .ok (.iload 4, 2) := by decide +kernel
theorem dX11_layRow_100 : decode cX11_layRow 100 = .ok (.istore 4, 2) := by decide +kernel
theorem dX11_layRow_102 : decode cX11_layRow 102 = .ok (.iinc 5 1, 3) := by decide +kernel
theorem dX11_layRow_105 : decode cX11_layRow 105 = .ok (.goto (-71), 3) := by decide +kernel
theorem dX11_layRow_108 : decode cX11_layRow 108 = .ok (.iload 4, 2) := by decide +kernel
theorem dX11_layRow_110 : decode cX11_layRow 110 = .ok (.ifCond .lt 31, 3) := by decide +kernel
theorem dX11_layRow_113 : decode cX11_layRow 113 = .ok (.iload_n 2, 1) := by decide +kernel
theorem dX11_layRow_114 : decode cX11_layRow 114 = .ok (.iconst 1, 1) := by decide +kernel
theorem dX11_layRow_115 : decode cX11_layRow 115 = .ok (.iload 4, 2) := by decide +kernel
theorem dX11_layRow_117 : decode cX11_layRow 117 = .ok (.ishl, 1) := by decide +kernel
theorem dX11_layRow_118 : decode cX11_layRow 118 = .ok (.ior, 1) := by decide +kernel
theorem dX11_layRow_119 : decode cX11_layRow 119 = .ok (.istore_n 2, 1) := by decide +kernel
theorem dX11_layRow_120 : decode cX11_layRow 120 = .ok (.aload_n 0, 1) := by decide +kernel
theorem dX11_layRow_121 : decode cX11_layRow 121 = .ok (.getfield 23, 3) := by decide +kernel
theorem dX11_layRow_124 : decode cX11_layRow 124 = .ok (.aload_n 0, 1) := by decide +kernel
theorem dX11_layRow_125 : decode cX11_layRow 125 = .ok (.getfield 121, 3) := by decide +kernel
theorem dX11_layRow_128 : decode cX11_layRow 128 = .ok (.iload 4, 2) := by decide +kernel
theorem dX11_layRow_130 : decode cX11_layRow 130 = .ok (.iastore, 1) := by decide +kernel
theorem dX11_layRow_131 : decode cX11_layRow 131 = .ok (.aload_n 0, 1) := by decide +kernel
theorem dX11_layRow_132 : decode cX11_layRow 132 = .ok (.dup, 1) := by decide +kernel
theorem dX11_layRow_133 : decode cX11_layRow 133 = .ok (.getfield 121, 3) := by decide +kernel
theorem dX11_layRow_136 : decode cX11_layRow 136 = .ok (.iconst 1, 1) := by decide +kernel
theorem dX11_layRow_137 : decode cX11_layRow 137 = .ok (.iadd, 1) := by decide +kernel
theorem dX11_layRow_138 : decode cX11_layRow 138 = .ok (.putfield 121, 3) := by decide +kernel
theorem dX11_layRow_141 : decode cX11_layRow 141 = .ok (.iinc 3 1, 3) := by decide +kernel
theorem dX11_layRow_144 : decode cX11_layRow 144 = .ok (.goto (-126), 3) := by decide +kernel
theorem dX11_layRow_147 : decode cX11_layRow 147 = .ok (.return_, 1) := by decide +kernel
theorem dX11_leave_0 : decode cX11_leave 0 = .ok (.bipush 17, 2) := by decide +kernel
theorem dX11_leave_2 : decode cX11_leave 2 = .ok (.istore_n 1, 1) := by decide +kernel
theorem dX11_leave_3 : decode cX11_leave 3 = .ok (.iload_n 1, 1) := by decide +kernel
theorem dX11_leave_4 : decode cX11_leave 4 = .ok (.iconst 3, 1) := by decide +kernel
theorem dX11_leave_5 : decode cX11_leave 5 = .ok (.if_icmp .lt 29, 3) := by decide +kernel
theorem dX11_leave_8 : decode cX11_leave 8 = .ok (.aload_n 0, 1) := by decide +kernel
theorem dX11_leave_9 : decode cX11_leave 9 = .ok (.getfield 7, 3) := by decide +kernel
theorem dX11_leave_12 : decode cX11_leave 12 = .ok (.bipush 93, 2) := by decide +kernel
theorem dX11_leave_14 : decode cX11_leave 14 = .ok (.iload_n 1, 1) := by decide +kernel
theorem dX11_leave_15 : decode cX11_leave 15 = .ok (.iadd, 1) := by decide +kernel
theorem dX11_leave_16 : decode cX11_leave 16 = .ok (.aload_n 0, 1) := by decide +kernel
theorem dX11_leave_17 : decode cX11_leave 17 = .ok (.getfield 7, 3) := by decide +kernel
theorem dX11_leave_20 : decode cX11_leave 20 = .ok (.bipush 93, 2) := by decide +kernel
theorem dX11_leave_22 : decode cX11_leave 22 = .ok (.iload_n 1, 1) := by decide +kernel
theorem dX11_leave_23 : decode cX11_leave 23 = .ok (.iadd, 1) := by decide +kernel
theorem dX11_leave_24 : decode cX11_leave 24 = .ok (.iconst 3, 1) := by decide +kernel
theorem dX11_leave_25 : decode cX11_leave 25 = .ok (.isub, 1) := by decide +kernel
theorem dX11_leave_26 : decode cX11_leave 26 = .ok (.iaload, 1) := by decide +kernel
theorem dX11_leave_27 : decode cX11_leave 27 = .ok (.iastore, 1) := by decide +kernel
theorem dX11_leave_28 : decode cX11_leave 28 = .ok (.iinc 1 (-1), 3) := by decide +kernel
theorem dX11_leave_31 : decode cX11_leave 31 = .ok (.goto (-28), 3) := by decide +kernel
theorem dX11_leave_34 : decode cX11_leave 34 = .ok (.iconst 0, 1) := by decide +kernel
theorem dX11_leave_35 : decode cX11_leave 35 = .ok (.istore_n 1, 1) := by decide +kernel
theorem dX11_leave_36 : decode cX11_leave 36 = .ok (.iload_n 1, 1) := by decide +kernel
theorem dX11_leave_37 : decode cX11_leave 37 = .ok (.iconst 3, 1) := by decide +kernel
theorem dX11_leave_38 : decode cX11_leave 38 = .ok (.if_icmp .ge 27, 3) := by decide +kernel
theorem dX11_leave_41 : decode cX11_leave 41 = .ok (.aload_n 0, 1) := by decide +kernel
theorem dX11_leave_42 : decode cX11_leave 42 = .ok (.getfield 7, 3) := by decide +kernel
theorem dX11_leave_45 : decode cX11_leave 45 = .ok (.bipush 93, 2) := by decide +kernel
theorem dX11_leave_47 : decode cX11_leave 47 = .ok (.iload_n 1, 1) := by decide +kernel
theorem dX11_leave_48 : decode cX11_leave 48 = .ok (.iadd, 1) := by decide +kernel
theorem dX11_leave_49 : decode cX11_leave 49 = .ok (.aload_n 0, 1) := by decide +kernel
theorem dX11_leave_50 : decode cX11_leave 50 = .ok (.getfield 7, 3) := by decide +kernel
theorem dX11_leave_53 : decode cX11_leave 53 = .ok (.bipush 18, 2) := by decide +kernel
theorem dX11_leave_55 : decode cX11_leave 55 = .ok (.iload_n 1, 1) := by decide +kernel
theorem dX11_leave_56 : decode cX11_leave 56 = .ok (.iadd, 1) := by decide +kernel
theorem dX11_leave_57 : decode cX11_leave 57 = .ok (.iaload, 1) := by decide +kernel
theorem dX11_leave_58 : decode cX11_leave 58 = .ok (.iastore, 1) := by decide +kernel
theorem dX11_leave_59 : decode cX11_leave 59 = .ok (.iinc 1 1, 3) := by decide +kernel
theorem dX11_leave_62 : decode cX11_leave 62 = .ok (.goto (-26), 3) := by decide +kernel
theorem dX11_leave_65 : decode cX11_leave 65 = .ok (.aload_n 0, 1) := by decide +kernel
theorem dX11_leave_66 : decode cX11_leave 66 = .ok (.getfield 7, 3) := by decide +kernel
theorem dX11_leave_69 : decode cX11_leave 69 = .ok (.bipush 10, 2) := by decide +kernel
theorem dX11_leave_71 : decode cX11_leave 71 = .ok (.dup2, 1) := by decide +kernel
theorem dX11_leave_72 : decode cX11_leave 72 = .ok (.iaload, 1) := by decide +kernel
theorem dX11_leave_73 : decode cX11_leave 73 = .ok (.aload_n 0, 1) := by decide +kernel
theorem dX11_leave_74 : decode cX11_leave 74 = .ok (.getfield 7, 3) := by decide +kernel
theorem dX11_leave_77 : decode cX11_leave 77 = .ok (.bipush 10, 2) := by decide +kernel
theorem dX11_leave_79 : decode cX11_leave 79 = .ok (.iaload, 1) := by decide +kernel
theorem dX11_leave_80 : decode cX11_leave 80 = .ok (.bipush 6, 2) := by decide +kernel
theorem dX11_leave_82 : decode cX11_leave 82 = .ok (.if_icmp .ge 7, 3) := by decide +kernel
theorem dX11_leave_85 : decode cX11_leave 85 = .ok (.iconst 1, 1) := by decide +kernel
theorem dX11_leave_86 : decode cX11_leave 86 = .ok (.goto 4, 3) := by decide +kernel
theorem dX11_leave_89 : decode cX11_leave 89 = .ok (.iconst 0, 1) := by decide +kernel
theorem dX11_leave_90 : decode cX11_leave 90 = .ok (.iadd, 1) := by decide +kernel
theorem dX11_leave_91 : decode cX11_leave 91 = .ok (.iastore, 1) := by decide +kernel
theorem dX11_leave_92 : decode cX11_leave 92 = .ok (.return_, 1) := by decide +kernel
theorem dX11_take_0 : decode cX11_take 0 = .ok (.aload_n 0, 1) := by decide +kernel
theorem dX11_take_1 : decode cX11_take 1 = .ok (.invokevirtual 131, 3) := by decide +kernel
theorem dX11_take_4 : decode cX11_take 4 = .ok (.aload_n 0, 1) := by decide +kernel
theorem dX11_take_5 : decode cX11_take 5 = .ok (.aload_n 0, 1) := by decide +kernel
theorem dX11_take_6 : decode cX11_take 6 = .ok (.iload_n 1, 1) := by decide +kernel
theorem dX11_take_7 : decode cX11_take 7 = .ok (.iconst 0, 1) := by decide +kernel
theorem dX11_take_8 : decode cX11_take 8 = .ok (.iload_n 2, 1) := by decide +kernel
theorem dX11_take_9 : decode cX11_take 9 = .ok (.invokevirtual 113, 3) := by decide +kernel
theorem dX11_take_12 : decode cX11_take 12 = .ok (.aload_n 0, 1) := by decide +kernel
theorem dX11_take_13 : decode cX11_take 13 = .ok (.iload_n 1, 1) := by decide +kernel
theorem dX11_take_14 : decode cX11_take 14 = .ok (.iconst 1, 1) := by decide +kernel
theorem dX11_take_15 : decode cX11_take 15 = .ok (.iload_n 2, 1) := by decide +kernel
theorem dX11_take_16 : decode cX11_take 16 = .ok (.invokevirtual 113, 3) := by decide +kernel
theorem dX11_take_19 : decode cX11_take 19 = .ok (.aload_n 0, 1) := by decide +kernel
theorem dX11_take_20 : decode cX11_take 20 = .ok (.iload_n 1, 1) := by decide +kernel
theorem dX11_take_21 : decode cX11_take 21 = .ok (.iconst 2, 1) := by decide +kernel
theorem dX11_take_22 : decode cX11_take 22 = .ok (.iload_n 2, 1) := by decide +kernel
theorem dX11_take_23 : decode cX11_take 23 = .ok (.invokevirtual 113, 3) := by decide +kernel
theorem dX11_take_26 : decode cX11_take 26 = .ok (.invokevirtual 109, 3) := by decide +kernel
theorem dX11_take_29 : decode cX11_take 29 = .ok (.aload_n 0, 1) := by decide +kernel
theorem dX11_take_30 : decode cX11_take 30 = .ok (.getfield 7, 3) := by decide +kernel
theorem dX11_take_33 : decode cX11_take 33 = .ok (.iconst 3, 1) := by decide +kernel
theorem dX11_take_34 : decode cX11_take 34 = .ok (.dup2, 1) := by decide +kernel
theorem dX11_take_35 : decode cX11_take 35 = .ok (.iaload, 1) := by decide +kernel
theorem dX11_take_36 : decode cX11_take 36 = .ok (.aload_n 0, 1) := by decide +kernel
theorem dX11_take_37 : decode cX11_take 37 = .ok (.getfield 7, 3) := by decide +kernel
theorem dX11_take_40 : decode cX11_take 40 = .ok (.iconst 3, 1) := by decide +kernel
theorem dX11_take_41 : decode cX11_take 41 = .ok (.iaload, 1) := by decide +kernel
theorem dX11_take_42 : decode cX11_take 42 = .ok (.iconst 4, 1) := by decide +kernel
theorem dX11_take_43 : decode cX11_take 43 = .ok (.if_icmp .ge 7, 3) := by decide +kernel
theorem dX11_take_46 : decode cX11_take 46 = .ok (.iconst 1, 1) := by decide +kernel
theorem dX11_take_47 : decode cX11_take 47 = .ok (.goto 4, 3) := by decide +kernel
theorem dX11_take_50 : decode cX11_take 50 = .ok (.iconst 0, 1) := by decide +kernel
theorem dX11_take_51 : decode cX11_take 51 = .ok (.iadd, 1) := by decide +kernel
theorem dX11_take_52 : decode cX11_take 52 = .ok (.iastore, 1) := by decide +kernel
theorem dX11_take_53 : decode cX11_take 53 = .ok (.aload_n 0, 1) := by decide +kernel
theorem dX11_take_54 : decode cX11_take 54 = .ok (.getfield 7, 3) := by decide +kernel
theorem dX11_take_57 : decode cX11_take 57 = .ok (.bipush 7, 2) := by decide +kernel
theorem dX11_take_59 : decode cX11_take 59 = .ok (.dup2, 1) := by decide +kernel
theorem dX11_take_60 : decode cX11_take 60 = .ok (.iaload, 1) := by decide +kernel
theorem dX11_take_61 : decode cX11_take 61 = .ok (.iconst 1, 1) := by decide +kernel
theorem dX11_take_62 : decode cX11_take 62 = .ok (.iadd, 1) := by decide +kernel
theorem dX11_take_63 : decode cX11_take 63 = .ok (.iastore, 1) := by decide +kernel
theorem dX11_take_64 : decode cX11_take 64 = .ok (.aload_n 0, 1) := by decide +kernel
theorem dX11_take_65 : decode cX11_take 65 = .ok (.getfield 7, 3) := by decide +kernel
theorem dX11_take_68 : decode cX11_take 68 = .ok (.bipush 9, 2) := by decide +kernel
theorem dX11_take_70 : decode cX11_take 70 = .ok (.iload_n 1, 1) := by decide +kernel
theorem dX11_take_71 : decode cX11_take 71 = .ok (.iastore, 1) := by decide +kernel
theorem dX11_take_72 : decode cX11_take 72 = .ok (.aload_n 0, 1) := by decide +kernel
theorem dX11_take_73 : decode cX11_take 73 = .ok (.getfield 7, 3) := by decide +kernel
theorem dX11_take_76 : decode cX11_take 76 = .ok (.bipush 61, 2) := by decide +kernel
theorem dX11_take_78 : decode cX11_take 78 = .ok (.iconst 4, 1) := by decide +kernel
theorem dX11_take_79 : decode cX11_take 79 = .ok (.iload_n 1, 1) := by decide +kernel
theorem dX11_take_80 : decode cX11_take 80 = .ok (.imul, 1) := by decide +kernel
theorem dX11_take_81 : decode cX11_take 81 = .ok (.iadd, 1) := by decide +kernel
theorem dX11_take_82 : decode cX11_take 82 = .ok (.iconst 3, 1) := by decide +kernel
theorem dX11_take_83 : decode cX11_take 83 = .ok (.iadd, 1) := by decide +kernel
theorem dX11_take_84 : decode cX11_take 84 = .ok (.dup2, 1) := by decide +kernel
theorem dX11_take_85 : decode cX11_take 85 = .ok (.iaload, 1) := by decide +kernel
theorem dX11_take_86 : decode cX11_take 86 = .ok (.iconst 1, 1) := by decide +kernel
theorem dX11_take_87 : decode cX11_take 87 = .ok (.iadd, 1) := by decide +kernel
theorem dX11_take_88 : decode cX11_take 88 = .ok (.iastore, 1) := by decide +kernel
theorem dX11_take_89 : decode cX11_take 89 = .ok (.return_, 1) := by decide +kernel
theorem dX11_pollOnce_0 : decode cX11_pollOnce 0 = .ok (.iconst 1, 1) := by decide +kernel
theorem dX11_pollOnce_1 : decode cX11_pollOnce 1 = .ok (.aload_n 0, 1) := by decide +kernel
theorem dX11_pollOnce_2 : decode cX11_pollOnce 2 = .ok (.getfield 7, 3) := by decide +kernel
theorem dX11_pollOnce_5 : decode cX11_pollOnce 5 = .ok (.iconst 3, 1) := by decide +kernel
theorem dX11_pollOnce_6 : decode cX11_pollOnce 6 = .ok (.iaload, 1) := by decide +kernel
theorem dX11_pollOnce_7 : decode cX11_pollOnce 7 = .ok (.ishl, 1) := by decide +kernel
theorem dX11_pollOnce_8 : decode cX11_pollOnce 8 = .ok (.istore_n 1, 1) := by decide +kernel
theorem dX11_pollOnce_9 : decode cX11_pollOnce 9 = .ok (.aload_n 0, 1) := by decide +kernel
theorem dX11_pollOnce_10 : decode cX11_pollOnce 10 = .ok (.invokevirtual 134, 3) := by decide +kernel
theorem dX11_pollOnce_13 : decode cX11_pollOnce 13 = .ok (.aload_n 0, 1) := by decide +kernel
theorem dX11_pollOnce_14 : decode cX11_pollOnce 14 = .ok (.invokevirtual 137, 3) := by decide +kernel
theorem dX11_pollOnce_17 : decode cX11_pollOnce 17 = .ok (.lstore_n 2, 1) := by decide +kernel
theorem dX11_pollOnce_18 : decode cX11_pollOnce 18 = .ok (.iconst (-1), 1) := by decide +kernel
theorem dX11_pollOnce_19 : decode cX11_pollOnce 19 = .ok (.istore 4, 2) := by decide +kernel
theorem dX11_pollOnce_21 : decode cX11_pollOnce 21 = .ok (.iconst 0, 1) := by decide +kernel
theorem dX11_pollOnce_22 : decode cX11_pollOnce 22 = .ok (.istore 5, 2) := by decide +kernel
theorem dX11_pollOnce_24 : decode cX11_pollOnce 24 = .ok (.iload 5, 2) := by decide +kernel
theorem dX11_pollOnce_26 : decode cX11_pollOnce 26 = .ok (.aload_n 0, 1) := by decide +kernel
theorem dX11_pollOnce_27 : decode cX11_pollOnce 27 = .ok (.getfield 121, 3) := by decide +kernel
theorem dX11_pollOnce_30 : decode cX11_pollOnce 30 = .ok (.if_icmp .ge 69, 3) := by decide +kernel
theorem dX11_pollOnce_33 : decode cX11_pollOnce 33 = .ok (.iload 4, 2) := by decide +kernel
theorem dX11_pollOnce_35 : decode cX11_pollOnce 35 = .ok (.ifCond .lt 13, 3) := by decide +kernel
theorem dX11_pollOnce_38 : decode cX11_pollOnce 38 = .ok (.aload_n 0, 1) := by decide +kernel
theorem dX11_pollOnce_39 : decode cX11_pollOnce 39 = .ok (.getfield 7, 3) := by decide +kernel
theorem dX11_pollOnce_42 : decode cX11_pollOnce 42 = .ok (.iconst 5, 1) := by decide +kernel
theorem dX11_pollOnce_43 : decode cX11_pollOnce 43 = .ok (.iaload, 1) := by decide +kernel
theorem dX11_pollOnce_44 : decode cX11_pollOnce 44 = .ok (.iconst 1, 1) := by decide +kernel
theorem dX11_pollOnce_45 : decode cX11_pollOnce 45 = .ok (.if_icmp .ne 54, 3) := by decide +kernel
theorem dX11_pollOnce_48 : decode cX11_pollOnce 48 = .ok (.aload_n 0, 1) := by decide +kernel
theorem dX11_pollOnce_49 : decode cX11_pollOnce 49 = .ok (.aload_n 0, 1) := by decide +kernel
theorem dX11_pollOnce_50 : decode cX11_pollOnce 50 = .ok (.getfield 23, 3) := by decide +kernel
theorem dX11_pollOnce_53 : decode cX11_pollOnce 53 = .ok (.iload 5, 2) := by decide +kernel
theorem dX11_pollOnce_55 : decode cX11_pollOnce 55 = .ok (.iaload, 1) := by decide +kernel
theorem dX11_pollOnce_56 : decode cX11_pollOnce 56 = .ok (.iload_n 1, 1) := by decide +kernel
theorem dX11_pollOnce_57 : decode cX11_pollOnce 57 = .ok (.iconst 0, 1) := by decide +kernel
theorem dX11_pollOnce_58 : decode cX11_pollOnce 58 = .ok (.invokevirtual 117, 3) := by decide +kernel
theorem dX11_pollOnce_61 : decode cX11_pollOnce 61 = .ok (.lstore 6, 2) := by decide +kernel
theorem dX11_pollOnce_63 : decode cX11_pollOnce 63 = .ok (.aload_n 0, 1) := by decide +kernel
theorem dX11_pollOnce_64 : decode cX11_pollOnce 64 = .ok (.getfield 7, 3) := by decide +kernel
theorem dX11_pollOnce_67 : decode cX11_pollOnce 67 = .ok (.bipush 8, 2) := by decide +kernel
theorem dX11_pollOnce_69 : decode cX11_pollOnce 69 = .ok (.dup2, 1) := by decide +kernel
theorem dX11_pollOnce_70 : decode cX11_pollOnce 70 = .ok (.iaload, 1) := by decide +kernel
theorem dX11_pollOnce_71 : decode cX11_pollOnce 71 = .ok (.iconst 1, 1) := by decide +kernel
theorem dX11_pollOnce_72 : decode cX11_pollOnce 72 = .ok (.iadd, 1) := by decide +kernel
theorem dX11_pollOnce_73 : decode cX11_pollOnce 73 = .ok (.iastore, 1) := by decide +kernel
theorem dX11_pollOnce_74 : decode cX11_pollOnce 74 = .ok (.lload 6, 2) := by decide +kernel
theorem dX11_pollOnce_76 : decode cX11_pollOnce 76 = .ok (.lload_n 2, 1) := by decide +kernel
theorem dX11_pollOnce_77 : decode cX11_pollOnce 77 = .ok (.lcmp, 1) := by decide +kernel
theorem dX11_pollOnce_78 : decode cX11_pollOnce 78 = .ok (.ifCond .ge 15, 3) := by decide +kernel
theorem dX11_pollOnce_81 : decode cX11_pollOnce 81 = .ok (.lload 6, 2) := by decide +kernel
theorem dX11_pollOnce_83 : decode cX11_pollOnce 83 = .ok (.lstore_n 2, 1) := by decide +kernel
theorem dX11_pollOnce_84 : decode cX11_pollOnce 84 = .ok (.aload_n 0, 1) := by decide +kernel
theorem dX11_pollOnce_85 : decode cX11_pollOnce 85 = .ok (.getfield 23, 3) := by decide +kernel
theorem dX11_pollOnce_88 : decode cX11_pollOnce 88 = .ok (.iload 5, 2) := by decide +kernel
theorem dX11_pollOnce_90 : decode cX11_pollOnce 90 = .ok (.iaload, 1) := by decide +kernel
theorem dX11_pollOnce_91 : decode cX11_pollOnce 91 = .ok (.istore 4, 2) := by decide +kernel
theorem dX11_pollOnce_93 : decode cX11_pollOnce 93 = .ok (.iinc 5 1, 3) := by decide +kernel
theorem dX11_pollOnce_96 : decode cX11_pollOnce 96 = .ok (.goto (-72), 3) := by decide +kernel
theorem dX11_pollOnce_99 : decode cX11_pollOnce 99 = .ok (.aload_n 0, 1) := by decide +kernel
theorem dX11_pollOnce_100 : decode cX11_pollOnce 100 = .ok (.getfield 7, 3) := by decide +kernel
theorem dX11_pollOnce_103 : decode cX11_pollOnce 103 = .ok (.bipush 6, 2) := by decide +kernel
theorem dX11_pollOnce_105 : decode cX11_pollOnce 105 = .ok (.dup2, 1) := by decide +kernel
theorem dX11_pollOnce_106 : decode cX11_pollOnce 106 = .ok (.iaload, 1) := by decide +kernel
theorem dX11_pollOnce_107 : decode cX11_pollOnce 107 = .ok (.iconst 1, 1) := by decide +kernel
theorem dX11_pollOnce_108 : decode cX11_pollOnce 108 = .ok (.iadd, 1) := by decide +kernel
theorem dX11_pollOnce_109 : decode cX11_pollOnce 109 = .ok (.iastore, 1) := by decide +kernel
theorem dX11_pollOnce_110 : decode cX11_pollOnce 110 = .ok (.aload_n 0, 1) := by decide +kernel
theorem dX11_pollOnce_111 : decode cX11_pollOnce 111 = .ok (.getfield 7, 3) := by decide +kernel
theorem dX11_pollOnce_114 : decode cX11_pollOnce 114 = .ok (.bipush 11, 2) := by decide +kernel
theorem dX11_pollOnce_116 : decode cX11_pollOnce 116 = .ok (.iload 4, 2) := by decide +kernel
theorem dX11_pollOnce_118 : decode cX11_pollOnce 118 = .ok (.ifCond .ge 12, 3) := by decide +kernel
theorem dX11_pollOnce_121 : decode cX11_pollOnce 121 = .ok (.iload_n 1, 1) := by decide +kernel
theorem dX11_pollOnce_122 : decode cX11_pollOnce 122 = .ok (.iconst 1, 1) := by decide +kernel
theorem dX11_pollOnce_123 : decode cX11_pollOnce 123 = .ok (.if_icmp .ne 7, 3) := by decide +kernel
theorem dX11_pollOnce_126 : decode cX11_pollOnce 126 = .ok (.iconst 1, 1) := by decide +kernel
theorem dX11_pollOnce_127 : decode cX11_pollOnce 127 = .ok (.goto 4, 3) := by decide +kernel
theorem dX11_pollOnce_130 : decode cX11_pollOnce 130 = .ok (.iconst 0, 1) := by decide +kernel
theorem dX11_pollOnce_131 : decode cX11_pollOnce 131 = .ok (.iastore, 1) := by decide +kernel
theorem dX11_pollOnce_132 : decode cX11_pollOnce 132 = .ok (.iload 4, 2) := by decide +kernel
theorem dX11_pollOnce_134 : decode cX11_pollOnce 134 = .ok (.ifCond .lt 13, 3) := by decide +kernel
theorem dX11_pollOnce_137 : decode cX11_pollOnce 137 = .ok (.aload_n 0, 1) := by decide +kernel
theorem dX11_pollOnce_138 : decode cX11_pollOnce 138 = .ok (.iload 4, 2) := by decide +kernel
theorem dX11_pollOnce_140 : decode cX11_pollOnce 140 = .ok (.iload_n 1, 1) := by decide +kernel
theorem dX11_pollOnce_141 : decode cX11_pollOnce 141 = .ok (.invokevirtual 141, 3) := by decide +kernel
theorem dX11_pollOnce_144 : decode cX11_pollOnce 144 = .ok (.goto 26, 3) := by decide +kernel
theorem dX11_pollOnce_147 : decode cX11_pollOnce 147 = .ok (.aload_n 0, 1) := by decide +kernel
theorem dX11_pollOnce_148 : decode cX11_pollOnce 148 = .ok (.getfield 7, 3) := by decide +kernel
theorem dX11_pollOnce_151 : decode cX11_pollOnce 151 = .ok (.iconst 3, 1) := by decide +kernel
theorem dX11_pollOnce_152 : decode cX11_pollOnce 152 = .ok (.dup2, 1) := by decide +kernel
theorem dX11_pollOnce_153 : decode cX11_pollOnce 153 = .ok (.iaload, 1) := by decide +kernel
theorem dX11_pollOnce_154 : decode cX11_pollOnce 154 = .ok (.aload_n 0, 1) := by decide +kernel
theorem dX11_pollOnce_155 : decode cX11_pollOnce 155 = .ok (.getfield 7, 3) := by decide +kernel
theorem dX11_pollOnce_158 : decode cX11_pollOnce 158 = .ok (.iconst 3, 1) := by decide +kernel
theorem dX11_pollOnce_159 : decode cX11_pollOnce 159 = .ok (.iaload, 1) := by decide +kernel
theorem dX11_pollOnce_160 : decode cX11_pollOnce 160 = .ok (.ifCond .le 7, 3) := by decide +kernel
theorem dX11_pollOnce_163 : decode cX11_pollOnce 163 = .ok (.iconst 1, 1) := by decide +kernel
theorem dX11_pollOnce_164 : decode cX11_pollOnce 164 = .ok (.goto 4, 3) := by decide +kernel
theorem dX11_pollOnce_167 : decode cX11_pollOnce 167 = .ok (.iconst 0, 1) := by decide +kernel
theorem dX11_pollOnce_168 : decode cX11_pollOnce 168 = .ok (.isub, 1) := by decide +kernel
theorem dX11_pollOnce_169 : decode cX11_pollOnce 169 = .ok (.iastore, 1) := by decide +kernel
theorem dX11_pollOnce_170 : decode cX11_pollOnce 170 = .ok (.iload 4, 2) := by decide +kernel
theorem dX11_pollOnce_172 : decode cX11_pollOnce 172 = .ok (.ireturn, 1) := by decide +kernel
theorem dX11_canPoll_0 : decode cX11_canPoll 0 = .ok (.aload_n 0, 1) := by decide +kernel
theorem dX11_canPoll_1 : decode cX11_canPoll 1 = .ok (.invokevirtual 91, 3) := by decide +kernel
theorem dX11_canPoll_4 : decode cX11_canPoll 4 = .ok (.ifCond .eq 16, 3) := by decide +kernel
theorem dX11_canPoll_7 : decode cX11_canPoll 7 = .ok (.aload_n 0, 1) := by decide +kernel
theorem dX11_canPoll_8 : decode cX11_canPoll 8 = .ok (.getfield 7, 3) := by decide +kernel
theorem dX11_canPoll_11 : decode cX11_canPoll 11 = .ok (.iconst 2, 1) := by decide +kernel
theorem dX11_canPoll_12 : decode cX11_canPoll 12 = .ok (.iaload, 1) := by decide +kernel
theorem dX11_canPoll_13 : decode cX11_canPoll 13 = .ok (.ifCond .le 7, 3) := by decide +kernel
theorem dX11_canPoll_16 : decode cX11_canPoll 16 = .ok (.iconst 1, 1) := by decide +kernel
theorem dX11_canPoll_17 : decode cX11_canPoll 17 = .ok (.goto 4, 3) := by decide +kernel
theorem dX11_canPoll_20 : decode cX11_canPoll 20 = .ok (.iconst 0, 1) := by decide +kernel
theorem dX11_canPoll_21 : decode cX11_canPoll 21 = .ok (.ireturn, 1) := by decide +kernel
theorem dX11_poll_0 : decode cX11_poll 0 = .ok (.aload_n 0, 1) := by decide +kernel
theorem dX11_poll_1 : decode cX11_poll 1 = .ok (.invokevirtual 145, 3) := by decide +kernel
theorem dX11_poll_4 : decode cX11_poll 4 = .ok (.ifCond .ne 6, 3) := by decide +kernel
theorem dX11_poll_7 : decode cX11_poll 7 = .ok (.ldc 40, 2) := by decide +kernel
theorem dX11_poll_9 : decode cX11_poll 9 = .ok (.ireturn, 1) := by decide +kernel
theorem dX11_poll_10 : decode cX11_poll 10 = .ok (.aload_n 0, 1) := by decide +kernel
theorem dX11_poll_11 : decode cX11_poll 11 = .ok (.invokevirtual 45, 3) := by decide +kernel
theorem dX11_poll_14 : decode cX11_poll 14 = .ok (.aload_n 0, 1) := by decide +kernel
theorem dX11_poll_15 : decode cX11_poll 15 = .ok (.invokevirtual 148, 3) := by decide +kernel
theorem dX11_poll_18 : decode cX11_poll 18 = .ok (.ireturn, 1) := by decide +kernel
theorem dX11_run_0 : decode cX11_run 0 = .ok (.iload_n 1, 1) := by decide +kernel
theorem dX11_run_1 : decode cX11_run 1 = .ok (.iconst 1, 1) := by decide +kernel
theorem dX11_run_2 : decode cX11_run 2 = .ok (.bipush 60, 2) := by decide +kernel
theorem dX11_run_4 : decode cX11_run 4 = .ok (.invokestatic 48, 3) := by decide +kernel
theorem dX11_run_7 : decode cX11_run 7 = .ok (.ifCond .ne 6, 3) := by decide +kernel
theorem dX11_run_10 : decode cX11_run 10 = .ok (.ldc 70, 2) := by decide +kernel
theorem dX11_run_12 : decode cX11_run 12 = .ok (.ireturn, 1) := by decide +kernel
theorem dX11_run_13 : decode cX11_run 13 = .ok (.aload_n 0, 1) := by decide +kernel
theorem dX11_run_14 : decode cX11_run 14 = .ok (.invokevirtual 145, 3) := by decide +kernel
theorem dX11_run_17 : decode cX11_run 17 = .ok (.ifCond .ne 6, 3) := by decide +kernel
theorem dX11_run_20 : decode cX11_run 20 = .ok (.ldc 40, 2) := by decide +kernel
theorem dX11_run_22 : decode cX11_run 22 = .ok (.ireturn, 1) := by decide +kernel
theorem dX11_run_23 : decode cX11_run 23 = .ok (.aload_n 0, 1) := by decide +kernel
theorem dX11_run_24 : decode cX11_run 24 = .ok (.invokevirtual 45, 3) := by decide +kernel
theorem dX11_run_27 : decode cX11_run 27 = .ok (.iconst 0, 1) := by decide +kernel
theorem dX11_run_28 : decode cX11_run 28 = .ok (.istore_n 2, 1) := by decide +kernel
theorem dX11_run_29 : decode cX11_run 29 = .ok (.iconst 1, 1) := by decide +kernel
theorem dX11_run_30 : decode cX11_run 30 = .ok (.istore_n 3, 1) := by decide +kernel
theorem dX11_run_31 : decode cX11_run 31 = .ok (.iload_n 3, 1) := by decide +kernel
theorem dX11_run_32 : decode cX11_run 32 = .ok (.ifCond .eq 35, 3) := by decide +kernel
theorem dX11_run_35 : decode cX11_run 35 = .ok (.iload_n 2, 1) := by decide +kernel
theorem dX11_run_36 : decode cX11_run 36 = .ok (.iload_n 1, 1) := by decide +kernel
theorem dX11_run_37 : decode cX11_run 37 = .ok (.if_icmp .ge 30, 3) := by decide +kernel
theorem dX11_run_40 : decode cX11_run 40 = .ok (.aload_n 0, 1) := by decide +kernel
theorem dX11_run_41 : decode cX11_run 41 = .ok (.invokevirtual 148, 3) := by decide +kernel
theorem dX11_run_44 : decode cX11_run 44 = .ok (.pop, 1) := by decide +kernel
theorem dX11_run_45 : decode cX11_run 45 = .ok (.iinc 2 1, 3) := by decide +kernel
theorem dX11_run_48 : decode cX11_run 48 = .ok (.aload_n 0, 1) := by decide +kernel
theorem dX11_run_49 : decode cX11_run 49 = .ok (.getfield 7, 3) := by decide +kernel
theorem dX11_run_52 : decode cX11_run 52 = .ok (.bipush 11, 2) := by decide +kernel
theorem dX11_run_54 : decode cX11_run 54 = .ok (.iaload, 1) := by decide +kernel
theorem dX11_run_55 : decode cX11_run 55 = .ok (.ifCond .ne 7, 3) := by decide +kernel
theorem dX11_run_58 : decode cX11_run 58 = .ok (.iconst 1, 1) := by decide +kernel
theorem dX11_run_59 : decode cX11_run 59 = .ok (.goto 4, 3) := by decide +kernel
theorem dX11_run_62 : decode cX11_run 62 = .ok (.iconst 0, 1) := by decide +kernel
theorem dX11_run_63 : decode cX11_run 63 = .ok (.istore_n 3, 1) := by decide +kernel
theorem dX11_run_64 : decode cX11_run 64 = .ok (.goto (-33), 3) := by decide +kernel
theorem dX11_run_67 : decode cX11_run 67 = .ok (.iload_n 2, 1) := by decide +kernel
theorem dX11_run_68 : decode cX11_run 68 = .ok (.ireturn, 1) := by decide +kernel
theorem dX11_termOf_0 : decode cX11_termOf 0 = .ok (.iload_n 1, 1) := by decide +kernel
theorem dX11_termOf_1 : decode cX11_termOf 1 = .ok (.ifCond .lt 12, 3) := by decide +kernel
theorem dX11_termOf_4 : decode cX11_termOf 4 = .ok (.iload_n 2, 1) := by decide +kernel
theorem dX11_termOf_5 : decode cX11_termOf 5 = .ok (.iconst 0, 1) := by decide +kernel
theorem dX11_termOf_6 : decode cX11_termOf 6 = .ok (.iconst 3, 1) := by decide +kernel
theorem dX11_termOf_7 : decode cX11_termOf 7 = .ok (.invokestatic 48, 3) := by decide +kernel
theorem dX11_termOf_10 : decode cX11_termOf 10 = .ok (.ifCond .ne 6, 3) := by decide +kernel
theorem dX11_termOf_13 : decode cX11_termOf 13 = .ok (.ldc 70, 2) := by decide +kernel
theorem dX11_termOf_15 : decode cX11_termOf 15 = .ok (.ireturn, 1) := by decide +kernel
theorem dX11_termOf_16 : decode cX11_termOf 16 = .ok (.iload_n 1, 1) := by decide +kernel
theorem dX11_termOf_17 : decode cX11_termOf 17 = .ok (.aload_n 0, 1) := by decide +kernel
theorem dX11_termOf_18 : decode cX11_termOf 18 = .ok (.getfield 7, 3) := by decide +kernel
theorem dX11_termOf_21 : decode cX11_termOf 21 = .ok (.iconst 1, 1) := by decide +kernel
theorem dX11_termOf_22 : decode cX11_termOf 22 = .ok (.iaload, 1) := by decide +kernel
theorem dX11_termOf_23 : decode cX11_termOf 23 = .ok (.if_icmp .ge 19, 3) := by decide +kernel
theorem dX11_termOf_26 : decode cX11_termOf 26 = .ok (.aload_n 0, 1) := by decide +kernel
theorem dX11_termOf_27 : decode cX11_termOf 27 = .ok (.getfield 7, 3) := by decide +kernel
theorem dX11_termOf_30 : decode cX11_termOf 30 = .ok (.bipush 21, 2) := by decide +kernel
theorem dX11_termOf_32 : decode cX11_termOf 32 = .ok (.iconst 4, 1) := by decide +kernel
theorem dX11_termOf_33 : decode cX11_termOf 33 = .ok (.iload_n 1, 1) := by decide +kernel
theorem dX11_termOf_34 : decode cX11_termOf 34 = .ok (.imul, 1) := by decide +kernel
theorem dX11_termOf_35 : decode cX11_termOf 35 = .ok (.iadd, 1) := by decide +kernel
theorem dX11_termOf_36 : decode cX11_termOf 36 = .ok (.iload_n 2, 1) := by decide +kernel
theorem dX11_termOf_37 : decode cX11_termOf 37 = .ok (.iadd, 1) := by decide +kernel
theorem dX11_termOf_38 : decode cX11_termOf 38 = .ok (.iaload, 1) := by decide +kernel
theorem dX11_termOf_39 : decode cX11_termOf 39 = .ok (.goto 5, 3) := by decide +kernel
theorem dX11_termOf_42 : decode cX11_termOf 42 = .ok (.ldc 151, 2) := by decide +kernel
theorem dX11_termOf_44 : decode cX11_termOf 44 = .ok (.ireturn, 1) := by decide +kernel
theorem dX11_directionOf_0 : decode cX11_directionOf 0 = .ok (.iload_n 1, 1) := by decide +kernel
theorem dX11_directionOf_1 : decode cX11_directionOf 1 = .ok (.ifCond .lt 12, 3) := by decide +kernel
theorem dX11_directionOf_4 : decode cX11_directionOf 4 = .ok (.iload_n 2, 1) := by decide +kernel
theorem dX11_directionOf_5 : decode cX11_directionOf 5 = .ok (.iconst 0, 1) := by decide +kernel
theorem dX11_directionOf_6 : decode cX11_directionOf 6 = .ok (.iconst 3, 1) := by decide +kernel
theorem dX11_directionOf_7 : decode cX11_directionOf 7 = .ok (.invokestatic 48, 3) := by decide +kernel
theorem dX11_directionOf_10 : decode cX11_directionOf 10 = .ok (.ifCond .ne 6, 3) := by decide +kernel
theorem dX11_directionOf_13 : decode cX11_directionOf 13 = .ok (.ldc 70, 2) := by decide +kernel
theorem dX11_directionOf_15 : decode cX11_directionOf 15 = .ok (.ireturn, 1) := by decide +kernel
theorem dX11_directionOf_16 : decode cX11_directionOf 16 = .ok (.iload_n 1, 1) := by decide +kernel
theorem dX11_directionOf_17 : decode cX11_directionOf 17 = .ok (.aload_n 0, 1) := by decide +kernel
theorem dX11_directionOf_18 : decode cX11_directionOf 18 = .ok (.getfield 7, 3) := by decide +kernel
theorem dX11_directionOf_21 : decode cX11_directionOf 21 = .ok (.iconst 2, 1) := by decide +kernel
theorem dX11_directionOf_22 : decode cX11_directionOf 22 = .ok (.iaload, 1) := by decide +kernel
theorem dX11_directionOf_23 : decode cX11_directionOf 23 = .ok (.if_icmp .ge 19, 3) := by decide +kernel
theorem dX11_directionOf_26 : decode cX11_directionOf 26 = .ok (.aload_n 0, 1) := by decide +kernel
theorem dX11_directionOf_27 : decode cX11_directionOf 27 = .ok (.getfield 7, 3) := by decide +kernel
theorem dX11_directionOf_30 : decode cX11_directionOf 30 = .ok (.bipush 61, 2) := by decide +kernel
theorem dX11_directionOf_32 : decode cX11_directionOf 32 = .ok (.iconst 4, 1) := by decide +kernel
theorem dX11_directionOf_33 : decode cX11_directionOf 33 = .ok (.iload_n 1, 1) := by decide +kernel
theorem dX11_directionOf_34 : decode cX11_directionOf 34 = .ok (.imul, 1) := by decide +kernel
theorem dX11_directionOf_35 : decode cX11_directionOf 35 = .ok (.iadd, 1) := by decide +kernel
theorem dX11_directionOf_36 : decode cX11_directionOf 36 = .ok (.iload_n 2, 1) := by decide +kernel
theorem dX11_directionOf_37 : decode cX11_directionOf 37 = .ok (.iadd, 1) := by decide +kernel
theorem dX11_directionOf_38 : decode cX11_directionOf 38 = .ok (.iaload, 1) := by decide +kernel
theorem dX11_directionOf_39 : decode cX11_directionOf 39 = .ok (.goto 5, 3) := by decide +kernel
theorem dX11_directionOf_42 : decode cX11_directionOf 42 = .ok (.ldc 151, 2) := by decide +kernel
theorem dX11_directionOf_44 : decode cX11_directionOf 44 = .ok (.ireturn, 1) := by decide +kernel
theorem dX11_searchOf_0 : decode cX11_searchOf 0 = .ok (.iload_n 1, 1) := by decide +kernel
theorem dX11_searchOf_1 : decode cX11_searchOf 1 = .ok (.iconst 0, 1) := by decide +kernel
theorem dX11_searchOf_2 : decode cX11_searchOf 2 = .ok (.bipush 9, 2) := by decide +kernel
theorem dX11_searchOf_4 : decode cX11_searchOf 4 = .ok (.invokestatic 48, 3) := by decide +kernel
theorem dX11_searchOf_7 : decode cX11_searchOf 7 = .ok (.ifCond .ne 6, 3) := by decide +kernel
theorem dX11_searchOf_10 : decode cX11_searchOf 10 = .ok (.ldc 70, 2) := by decide +kernel
theorem dX11_searchOf_12 : decode cX11_searchOf 12 = .ok (.ireturn, 1) := by decide +kernel
theorem dX11_searchOf_13 : decode cX11_searchOf 13 = .ok (.iload_n 1, 1) := by decide +kernel
theorem dX11_searchOf_14 : decode cX11_searchOf 14 = .ok (.tableswitch 114 3 9 #[42, 51, 59, 67, 75, 98, 106], 42) := by decide +kernel
theorem dX11_searchOf_56 : decode cX11_searchOf 56 = .ok (.iconst 1, 1) := by decide +kernel
theorem dX11_searchOf_57 : decode cX11_searchOf 57 = .ok (.aload_n 0, 1) := by decide +kernel
theorem dX11_searchOf_58 : decode cX11_searchOf 58 = .ok (.getfield 7, 3) := by decide +kernel
theorem dX11_searchOf_61 : decode cX11_searchOf 61 = .ok (.iconst 3, 1) := by decide +kernel
theorem dX11_searchOf_62 : decode cX11_searchOf 62 = .ok (.iaload, 1) := by decide +kernel
theorem dX11_searchOf_63 : decode cX11_searchOf 63 = .ok (.ishl, 1) := by decide +kernel
theorem dX11_searchOf_64 : decode cX11_searchOf 64 = .ok (.ireturn, 1) := by decide +kernel
theorem dX11_searchOf_65 : decode cX11_searchOf 65 = .ok (.aload_n 0, 1) := by decide +kernel
theorem dX11_searchOf_66 : decode cX11_searchOf 66 = .ok (.getfield 7, 3) := by decide +kernel
theorem dX11_searchOf_69 : decode cX11_searchOf 69 = .ok (.bipush 6, 2) := by decide +kernel
theorem dX11_searchOf_71 : decode cX11_searchOf 71 = .ok (.iaload, 1) := by decide +kernel
theorem dX11_searchOf_72 : decode cX11_searchOf 72 = .ok (.ireturn, 1) := by decide +kernel
theorem dX11_searchOf_73 : decode cX11_searchOf 73 = .ok (.aload_n 0, 1) := by decide +kernel
theorem dX11_searchOf_74 : decode cX11_searchOf 74 = .ok (.getfield 7, 3) := by decide +kernel
theorem dX11_searchOf_77 : decode cX11_searchOf 77 = .ok (.bipush 7, 2) := by decide +kernel
theorem dX11_searchOf_79 : decode cX11_searchOf 79 = .ok (.iaload, 1) := by decide +kernel
theorem dX11_searchOf_80 : decode cX11_searchOf 80 = .ok (.ireturn, 1) := by decide +kernel
theorem dX11_searchOf_81 : decode cX11_searchOf 81 = .ok (.aload_n 0, 1) := by decide +kernel
theorem dX11_searchOf_82 : decode cX11_searchOf 82 = .ok (.getfield 7, 3) := by decide +kernel
theorem dX11_searchOf_85 : decode cX11_searchOf 85 = .ok (.bipush 8, 2) := by decide +kernel
theorem dX11_searchOf_87 : decode cX11_searchOf 87 = .ok (.iaload, 1) := by decide +kernel
theorem dX11_searchOf_88 : decode cX11_searchOf 88 = .ok (.ireturn, 1) := by decide +kernel
theorem dX11_searchOf_89 : decode cX11_searchOf 89 = .ok (.aload_n 0, 1) := by decide +kernel
theorem dX11_searchOf_90 : decode cX11_searchOf 90 = .ok (.getfield 7, 3) := by decide +kernel
theorem dX11_searchOf_93 : decode cX11_searchOf 93 = .ok (.bipush 9, 2) := by decide +kernel
theorem dX11_searchOf_95 : decode cX11_searchOf 95 = .ok (.iaload, 1) := by decide +kernel
theorem dX11_searchOf_96 : decode cX11_searchOf 96 = .ok (.ifCond .ge 8, 3) := by decide +kernel
theorem dX11_searchOf_99 : decode cX11_searchOf 99 = .ok (.ldc 151, 2) := by decide +kernel
theorem dX11_searchOf_101 : decode cX11_searchOf 101 = .ok (.goto 10, 3) := by decide +kernel
theorem dX11_searchOf_104 : decode cX11_searchOf 104 = .ok (.aload_n 0, 1) := by decide +kernel
theorem dX11_searchOf_105 : decode cX11_searchOf 105 = .ok (.getfield 7, 3) := by decide +kernel
theorem dX11_searchOf_108 : decode cX11_searchOf 108 = .ok (.bipush 9, 2) := by decide +kernel
theorem dX11_searchOf_110 : decode cX11_searchOf 110 = .ok (.iaload, 1) := by decide +kernel
theorem dX11_searchOf_111 : decode cX11_searchOf 111 = .ok (.ireturn, 1) := by decide +kernel
theorem dX11_searchOf_112 : decode cX11_searchOf 112 = .ok (.aload_n 0, 1) := by decide +kernel
theorem dX11_searchOf_113 : decode cX11_searchOf 113 = .ok (.getfield 7, 3) := by decide +kernel
theorem dX11_searchOf_116 : decode cX11_searchOf 116 = .ok (.bipush 10, 2) := by decide +kernel
theorem dX11_searchOf_118 : decode cX11_searchOf 118 = .ok (.iaload, 1) := by decide +kernel
theorem dX11_searchOf_119 : decode cX11_searchOf 119 = .ok (.ireturn, 1) := by decide +kernel
theorem dX11_searchOf_120 : decode cX11_searchOf 120 = .ok (.aload_n 0, 1) := by decide +kernel
theorem dX11_searchOf_121 : decode cX11_searchOf 121 = .ok (.getfield 7, 3) := by decide +kernel
theorem dX11_searchOf_124 : decode cX11_searchOf 124 = .ok (.bipush 11, 2) := by decide +kernel
theorem dX11_searchOf_126 : decode cX11_searchOf 126 = .ok (.iaload, 1) := by decide +kernel
theorem dX11_searchOf_127 : decode cX11_searchOf 127 = .ok (.ireturn, 1) := by decide +kernel
theorem dX11_searchOf_128 : decode cX11_searchOf 128 = .ok (.aload_n 0, 1) := by decide +kernel
theorem dX11_searchOf_129 : decode cX11_searchOf 129 = .ok (.getfield 7, 3) := by decide +kernel
theorem dX11_searchOf_132 : decode cX11_searchOf 132 = .ok (.bipush 18, 2) := by decide +kernel
theorem dX11_searchOf_134 : decode cX11_searchOf 134 = .ok (.iload_n 1, 1) := by decide +kernel
theorem dX11_searchOf_135 : decode cX11_searchOf 135 = .ok (.iadd, 1) := by decide +kernel
theorem dX11_searchOf_136 : decode cX11_searchOf 136 = .ok (.iaload, 1) := by decide +kernel
theorem dX11_searchOf_137 : decode cX11_searchOf 137 = .ok (.ireturn, 1) := by decide +kernel
theorem dX11_leftAt_0 : decode cX11_leftAt 0 = .ok (.iload_n 1, 1) := by decide +kernel
theorem dX11_leftAt_1 : decode cX11_leftAt 1 = .ok (.ifCond .lt 11, 3) := by decide +kernel
theorem dX11_leftAt_4 : decode cX11_leftAt 4 = .ok (.aload_n 0, 1) := by decide +kernel
theorem dX11_leftAt_5 : decode cX11_leftAt 5 = .ok (.iload_n 2, 1) := by decide +kernel
theorem dX11_leftAt_6 : decode cX11_leftAt 6 = .ok (.invokevirtual 87, 3) := by decide +kernel
theorem dX11_leftAt_9 : decode cX11_leftAt 9 = .ok (.ifCond .ne 6, 3) := by decide +kernel
theorem dX11_leftAt_12 : decode cX11_leftAt 12 = .ok (.ldc 70, 2) := by decide +kernel
theorem dX11_leftAt_14 : decode cX11_leftAt 14 = .ok (.ireturn, 1) := by decide +kernel
theorem dX11_leftAt_15 : decode cX11_leftAt 15 = .ok (.iload_n 1, 1) := by decide +kernel
theorem dX11_leftAt_16 : decode cX11_leftAt 16 = .ok (.aload_n 0, 1) := by decide +kernel
theorem dX11_leftAt_17 : decode cX11_leftAt 17 = .ok (.getfield 7, 3) := by decide +kernel
theorem dX11_leftAt_20 : decode cX11_leftAt 20 = .ok (.bipush 10, 2) := by decide +kernel
theorem dX11_leftAt_22 : decode cX11_leftAt 22 = .ok (.iaload, 1) := by decide +kernel
theorem dX11_leftAt_23 : decode cX11_leftAt 23 = .ok (.if_icmp .ge 19, 3) := by decide +kernel
theorem dX11_leftAt_26 : decode cX11_leftAt 26 = .ok (.aload_n 0, 1) := by decide +kernel
theorem dX11_leftAt_27 : decode cX11_leftAt 27 = .ok (.getfield 7, 3) := by decide +kernel
theorem dX11_leftAt_30 : decode cX11_leftAt 30 = .ok (.bipush 93, 2) := by decide +kernel
theorem dX11_leftAt_32 : decode cX11_leftAt 32 = .ok (.iconst 3, 1) := by decide +kernel
theorem dX11_leftAt_33 : decode cX11_leftAt 33 = .ok (.iload_n 1, 1) := by decide +kernel
theorem dX11_leftAt_34 : decode cX11_leftAt 34 = .ok (.imul, 1) := by decide +kernel
theorem dX11_leftAt_35 : decode cX11_leftAt 35 = .ok (.iadd, 1) := by decide +kernel
theorem dX11_leftAt_36 : decode cX11_leftAt 36 = .ok (.iload_n 2, 1) := by decide +kernel
theorem dX11_leftAt_37 : decode cX11_leftAt 37 = .ok (.iadd, 1) := by decide +kernel
theorem dX11_leftAt_38 : decode cX11_leftAt 38 = .ok (.iaload, 1) := by decide +kernel
theorem dX11_leftAt_39 : decode cX11_leftAt 39 = .ok (.goto 5, 3) := by decide +kernel
theorem dX11_leftAt_42 : decode cX11_leftAt 42 = .ok (.ldc 151, 2) := by decide +kernel
theorem dX11_leftAt_44 : decode cX11_leftAt 44 = .ok (.ireturn, 1) := by decide +kernel
theorem dX11_count_0 : decode cX11_count 0 = .ok (.iload_n 1, 1) := by decide +kernel
theorem dX11_count_1 : decode cX11_count 1 = .ok (.bipush 10, 2) := by decide +kernel
theorem dX11_count_3 : decode cX11_count 3 = .ok (.if_icmp .lt 61, 3) := by decide +kernel
theorem dX11_count_6 : decode cX11_count 6 = .ok (.iload_n 1, 1) := by decide +kernel
theorem dX11_count_7 : decode cX11_count 7 = .ok (.bipush 20, 2) := by decide +kernel
theorem dX11_count_9 : decode cX11_count 9 = .ok (.if_icmp .lt 7, 3) := by decide +kernel
theorem dX11_count_12 : decode cX11_count 12 = .ok (.iconst 1, 1) := by decide +kernel
theorem dX11_count_13 : decode cX11_count 13 = .ok (.goto 4, 3) := by decide +kernel
theorem dX11_count_16 : decode cX11_count 16 = .ok (.iconst 0, 1) := by decide +kernel
theorem dX11_count_17 : decode cX11_count 17 = .ok (.istore_n 2, 1) := by decide +kernel
theorem dX11_count_18 : decode cX11_count 18 = .ok (.iload_n 1, 1) := by decide +kernel
theorem dX11_count_19 : decode cX11_count 19 = .ok (.iload_n 2, 1) := by decide +kernel
theorem dX11_count_20 : decode cX11_count 20 = .ok (.ifCond .eq 8, 3) := by decide +kernel
theorem dX11_count_23 : decode cX11_count 23 = .ok (.bipush 20, 2) := by decide +kernel
theorem dX11_count_25 : decode cX11_count 25 = .ok (.goto 5, 3) := by decide +kernel
theorem dX11_count_28 : decode cX11_count 28 = .ok (.bipush 10, 2) := by decide +kernel
theorem dX11_count_30 : decode cX11_count 30 = .ok (.isub, 1) := by decide +kernel
theorem dX11_count_31 : decode cX11_count 31 = .ok (.istore_n 3, 1) := by decide +kernel
theorem dX11_count_32 : decode cX11_count 32 = .ok (.aload_n 0, 1) := by decide +kernel
theorem dX11_count_33 : decode cX11_count 33 = .ok (.iload_n 3, 1) := by decide +kernel
theorem dX11_count_34 : decode cX11_count 34 = .ok (.invokevirtual 87, 3) := by decide +kernel
theorem dX11_count_37 : decode cX11_count 37 = .ok (.ifCond .eq 24, 3) := by decide +kernel
theorem dX11_count_40 : decode cX11_count 40 = .ok (.aload_n 0, 1) := by decide +kernel
theorem dX11_count_41 : decode cX11_count 41 = .ok (.getfield 7, 3) := by decide +kernel
theorem dX11_count_44 : decode cX11_count 44 = .ok (.iload_n 2, 1) := by decide +kernel
theorem dX11_count_45 : decode cX11_count 45 = .ok (.ifCond .eq 8, 3) := by decide +kernel
theorem dX11_count_48 : decode cX11_count 48 = .ok (.bipush 15, 2) := by decide +kernel
theorem dX11_count_50 : decode cX11_count 50 = .ok (.goto 5, 3) := by decide +kernel
theorem dX11_count_53 : decode cX11_count 53 = .ok (.bipush 12, 2) := by decide +kernel
theorem dX11_count_55 : decode cX11_count 55 = .ok (.iload_n 3, 1) := by decide +kernel
theorem dX11_count_56 : decode cX11_count 56 = .ok (.iadd, 1) := by decide +kernel
theorem dX11_count_57 : decode cX11_count 57 = .ok (.iaload, 1) := by decide +kernel
theorem dX11_count_58 : decode cX11_count 58 = .ok (.goto 5, 3) := by decide +kernel
theorem dX11_count_61 : decode cX11_count 61 = .ok (.ldc 70, 2) := by decide +kernel
theorem dX11_count_63 : decode cX11_count 63 = .ok (.ireturn, 1) := by decide +kernel
theorem dX11_count_64 : decode cX11_count 64 = .ok (.iload_n 1, 1) := by decide +kernel
theorem dX11_count_65 : decode cX11_count 65 = .ok (.tableswitch 105 0 7 #[47, 54, 61, 68, 75, 82, 87, 92], 47) := by decide +kernel
theorem dX11_count_112 : decode cX11_count 112 = .ok (.aload_n 0, 1) := by decide +kernel
theorem dX11_count_113 : decode cX11_count 113 = .ok (.getfield 7, 3) := by decide +kernel
theorem dX11_count_116 : decode cX11_count 116 = .ok (.iconst 0, 1) := by decide +kernel
theorem dX11_count_117 : decode cX11_count 117 = .ok (.iaload, 1) := by decide +kernel
theorem dX11_count_118 : decode cX11_count 118 = .ok (.ireturn, 1) := by decide +kernel
theorem dX11_count_119 : decode cX11_count 119 = .ok (.aload_n 0, 1) := by decide +kernel
theorem dX11_count_120 : decode cX11_count 120 = .ok (.getfield 7, 3) := by decide +kernel
theorem dX11_count_123 : decode cX11_count 123 = .ok (.iconst 1, 1) := by decide +kernel
theorem dX11_count_124 : decode cX11_count 124 = .ok (.iaload, 1) := by decide +kernel
theorem dX11_count_125 : decode cX11_count 125 = .ok (.ireturn, 1) := by decide +kernel
theorem dX11_count_126 : decode cX11_count 126 = .ok (.aload_n 0, 1) := by decide +kernel
theorem dX11_count_127 : decode cX11_count 127 = .ok (.getfield 7, 3) := by decide +kernel
theorem dX11_count_130 : decode cX11_count 130 = .ok (.iconst 2, 1) := by decide +kernel
theorem dX11_count_131 : decode cX11_count 131 = .ok (.iaload, 1) := by decide +kernel
theorem dX11_count_132 : decode cX11_count 132 = .ok (.ireturn, 1) := by decide +kernel
theorem dX11_count_133 : decode cX11_count 133 = .ok (.aload_n 0, 1) := by decide +kernel
theorem dX11_count_134 : decode cX11_count 134 = .ok (.getfield 7, 3) := by decide +kernel
theorem dX11_count_137 : decode cX11_count 137 = .ok (.iconst 4, 1) := by decide +kernel
theorem dX11_count_138 : decode cX11_count 138 = .ok (.iaload, 1) := by decide +kernel
theorem dX11_count_139 : decode cX11_count 139 = .ok (.ireturn, 1) := by decide +kernel
theorem dX11_count_140 : decode cX11_count 140 = .ok (.aload_n 0, 1) := by decide +kernel
theorem dX11_count_141 : decode cX11_count 141 = .ok (.getfield 7, 3) := by decide +kernel
theorem dX11_count_144 : decode cX11_count 144 = .ok (.iconst 5, 1) := by decide +kernel
theorem dX11_count_145 : decode cX11_count 145 = .ok (.iaload, 1) := by decide +kernel
theorem dX11_count_146 : decode cX11_count 146 = .ok (.ireturn, 1) := by decide +kernel
theorem dX11_count_147 : decode cX11_count 147 = .ok (.aload_n 0, 1) := by decide +kernel
theorem dX11_count_148 : decode cX11_count 148 = .ok (.getfield 36, 3) := by decide +kernel
theorem dX11_count_151 : decode cX11_count 151 = .ok (.ireturn, 1) := by decide +kernel
theorem dX11_count_152 : decode cX11_count 152 = .ok (.aload_n 0, 1) := by decide +kernel
theorem dX11_count_153 : decode cX11_count 153 = .ok (.getfield 152, 3) := by decide +kernel
theorem dX11_count_156 : decode cX11_count 156 = .ok (.ireturn, 1) := by decide +kernel
theorem dX11_count_157 : decode cX11_count 157 = .ok (.aload_n 0, 1) := by decide +kernel
theorem dX11_count_158 : decode cX11_count 158 = .ok (.getfield 41, 3) := by decide +kernel
theorem dX11_count_161 : decode cX11_count 161 = .ok (.ifCond .eq 7, 3) := by decide +kernel
theorem dX11_count_164 : decode cX11_count 164 = .ok (.iconst 1, 1) := by decide +kernel
theorem dX11_count_165 : decode cX11_count 165 = .ok (.goto 4, 3) := by decide +kernel
theorem dX11_count_168 : decode cX11_count 168 = .ok (.iconst 0, 1) := by decide +kernel
theorem dX11_count_169 : decode cX11_count 169 = .ok (.ireturn, 1) := by decide +kernel
theorem dX11_count_170 : decode cX11_count 170 = .ok (.ldc 70, 2) := by decide +kernel
theorem dX11_count_172 : decode cX11_count 172 = .ok (.ireturn, 1) := by decide +kernel
theorem dX11_trialOf_0 : decode cX11_trialOf 0 = .ok (.iload_n 1, 1) := by decide +kernel
theorem dX11_trialOf_1 : decode cX11_trialOf 1 = .ok (.ifCond .lt 12, 3) := by decide +kernel
theorem dX11_trialOf_4 : decode cX11_trialOf 4 = .ok (.iload_n 2, 1) := by decide +kernel
theorem dX11_trialOf_5 : decode cX11_trialOf 5 = .ok (.iconst 0, 1) := by decide +kernel
theorem dX11_trialOf_6 : decode cX11_trialOf 6 = .ok (.iconst 1, 1) := by decide +kernel
theorem dX11_trialOf_7 : decode cX11_trialOf 7 = .ok (.invokestatic 48, 3) := by decide +kernel
theorem dX11_trialOf_10 : decode cX11_trialOf 10 = .ok (.ifCond .ne 6, 3) := by decide +kernel
theorem dX11_trialOf_13 : decode cX11_trialOf 13 = .ok (.ldc 70, 2) := by decide +kernel
theorem dX11_trialOf_15 : decode cX11_trialOf 15 = .ok (.ireturn, 1) := by decide +kernel
theorem dX11_trialOf_16 : decode cX11_trialOf 16 = .ok (.aload_n 0, 1) := by decide +kernel
theorem dX11_trialOf_17 : decode cX11_trialOf 17 = .ok (.invokevirtual 134, 3) := by decide +kernel
theorem dX11_trialOf_20 : decode cX11_trialOf 20 = .ok (.iload_n 1, 1) := by decide +kernel
theorem dX11_trialOf_21 : decode cX11_trialOf 21 = .ok (.aload_n 0, 1) := by decide +kernel
theorem dX11_trialOf_22 : decode cX11_trialOf 22 = .ok (.getfield 121, 3) := by decide +kernel
theorem dX11_trialOf_25 : decode cX11_trialOf 25 = .ok (.if_icmp .lt 6, 3) := by decide +kernel
theorem dX11_trialOf_28 : decode cX11_trialOf 28 = .ok (.ldc 151, 2) := by decide +kernel
theorem dX11_trialOf_30 : decode cX11_trialOf 30 = .ok (.ireturn, 1) := by decide +kernel
theorem dX11_trialOf_31 : decode cX11_trialOf 31 = .ok (.aload_n 0, 1) := by decide +kernel
theorem dX11_trialOf_32 : decode cX11_trialOf 32 = .ok (.aload_n 0, 1) := by decide +kernel
theorem dX11_trialOf_33 : decode cX11_trialOf 33 = .ok (.getfield 23, 3) := by decide +kernel
theorem dX11_trialOf_36 : decode cX11_trialOf 36 = .ok (.iload_n 1, 1) := by decide +kernel
theorem dX11_trialOf_37 : decode cX11_trialOf 37 = .ok (.iaload, 1) := by decide +kernel
theorem dX11_trialOf_38 : decode cX11_trialOf 38 = .ok (.iconst 1, 1) := by decide +kernel
theorem dX11_trialOf_39 : decode cX11_trialOf 39 = .ok (.aload_n 0, 1) := by decide +kernel
theorem dX11_trialOf_40 : decode cX11_trialOf 40 = .ok (.getfield 7, 3) := by decide +kernel
theorem dX11_trialOf_43 : decode cX11_trialOf 43 = .ok (.iconst 3, 1) := by decide +kernel
theorem dX11_trialOf_44 : decode cX11_trialOf 44 = .ok (.iaload, 1) := by decide +kernel
theorem dX11_trialOf_45 : decode cX11_trialOf 45 = .ok (.ishl, 1) := by decide +kernel
theorem dX11_trialOf_46 : decode cX11_trialOf 46 = .ok (.iconst 0, 1) := by decide +kernel
theorem dX11_trialOf_47 : decode cX11_trialOf 47 = .ok (.invokevirtual 117, 3) := by decide +kernel
theorem dX11_trialOf_50 : decode cX11_trialOf 50 = .ok (.aload_n 0, 1) := by decide +kernel
theorem dX11_trialOf_51 : decode cX11_trialOf 51 = .ok (.invokevirtual 137, 3) := by decide +kernel
theorem dX11_trialOf_54 : decode cX11_trialOf 54 = .ok (.lcmp, 1) := by decide +kernel
theorem dX11_trialOf_55 : decode cX11_trialOf 55 = .ok (.ifCond .ge 7, 3) := by decide +kernel
theorem dX11_trialOf_58 : decode cX11_trialOf 58 = .ok (.iconst 1, 1) := by decide +kernel
theorem dX11_trialOf_59 : decode cX11_trialOf 59 = .ok (.goto 4, 3) := by decide +kernel
theorem dX11_trialOf_62 : decode cX11_trialOf 62 = .ok (.iconst 0, 1) := by decide +kernel
theorem dX11_trialOf_63 : decode cX11_trialOf 63 = .ok (.istore_n 3, 1) := by decide +kernel
theorem dX11_trialOf_64 : decode cX11_trialOf 64 = .ok (.iload_n 2, 1) := by decide +kernel
theorem dX11_trialOf_65 : decode cX11_trialOf 65 = .ok (.ifCond .ne 12, 3) := by decide +kernel
theorem dX11_trialOf_68 : decode cX11_trialOf 68 = .ok (.aload_n 0, 1) := by decide +kernel
theorem dX11_trialOf_69 : decode cX11_trialOf 69 = .ok (.getfield 23, 3) := by decide +kernel
theorem dX11_trialOf_72 : decode cX11_trialOf 72 = .ok (.iload_n 1, 1) := by decide +kernel
theorem dX11_trialOf_73 : decode cX11_trialOf 73 = .ok (.iaload, 1) := by decide +kernel
theorem dX11_trialOf_74 : decode cX11_trialOf 74 = .ok (.goto 12, 3) := by decide +kernel
theorem dX11_trialOf_77 : decode cX11_trialOf 77 = .ok (.iload_n 3, 1) := by decide +kernel
theorem dX11_trialOf_78 : decode cX11_trialOf 78 = .ok (.ifCond .eq 7, 3) := by decide +kernel
theorem dX11_trialOf_81 : decode cX11_trialOf 81 = .ok (.iconst 1, 1) := by decide +kernel
theorem dX11_trialOf_82 : decode cX11_trialOf 82 = .ok (.goto 4, 3) := by decide +kernel
theorem dX11_trialOf_85 : decode cX11_trialOf 85 = .ok (.iconst 0, 1) := by decide +kernel
theorem dX11_trialOf_86 : decode cX11_trialOf 86 = .ok (.ireturn, 1) := by decide +kernel
theorem dX11_isBarred_0 : decode cX11_isBarred 0 = .ok (.iconst 1, 1) := by decide +kernel
theorem dX11_isBarred_1 : decode cX11_isBarred 1 = .ok (.istore 4, 2) := by decide +kernel
theorem dX11_isBarred_3 : decode cX11_isBarred 3 = .ok (.iconst 0, 1) := by decide +kernel
theorem dX11_isBarred_4 : decode cX11_isBarred 4 = .ok (.istore 5, 2) := by decide +kernel
theorem dX11_isBarred_6 : decode cX11_isBarred 6 = .ok (.iload 5, 2) := by decide +kernel
theorem dX11_isBarred_8 : decode cX11_isBarred 8 = .ok (.aload_n 0, 1) := by decide +kernel
theorem dX11_isBarred_9 : decode cX11_isBarred 9 = .ok (.getfield 7, 3) := by decide +kernel
theorem dX11_isBarred_12 : decode cX11_isBarred 12 = .ok (.iconst 2, 1) := by decide +kernel
theorem dX11_isBarred_13 : decode cX11_isBarred 13 = .ok (.iaload, 1) := by decide +kernel
theorem dX11_isBarred_14 : decode cX11_isBarred 14 = .ok (.if_icmp .ge 53, 3) := by decide +kernel
theorem dX11_isBarred_17 : decode cX11_isBarred 17 = .ok (.iload 4, 2) := by decide +kernel
theorem dX11_isBarred_19 : decode cX11_isBarred 19 = .ok (.ifCond .eq 39, 3) := by decide +kernel
theorem dX11_isBarred_22 : decode cX11_isBarred 22 = .ok (.iload_n 1, 1) := by decide +kernel
theorem dX11_isBarred_23 : decode cX11_isBarred 23 = .ok (.aload_n 0, 1) := by decide +kernel
theorem dX11_isBarred_24 : decode cX11_isBarred 24 = .ok (.iload 5, 2) := by decide +kernel
theorem dX11_isBarred_26 : decode cX11_isBarred 26 = .ok (.iconst 0, 1) := by decide +kernel
theorem dX11_isBarred_27 : decode cX11_isBarred 27 = .ok (.invokevirtual 98, 3) := by decide +kernel
theorem dX11_isBarred_30 : decode cX11_isBarred 30 = .ok (.imul, 1) := by decide +kernel
theorem dX11_isBarred_31 : decode cX11_isBarred 31 = .ok (.iload_n 2, 1) := by decide +kernel
theorem dX11_isBarred_32 : decode cX11_isBarred 32 = .ok (.aload_n 0, 1) := by decide +kernel
theorem dX11_isBarred_33 : decode cX11_isBarred 33 = .ok (.iload 5, 2) := by decide +kernel
theorem dX11_isBarred_35 : decode cX11_isBarred 35 = .ok (.iconst 1, 1) := by decide +kernel
theorem dX11_isBarred_36 : decode cX11_isBarred 36 = .ok (.invokevirtual 98, 3) := by decide +kernel
theorem dX11_isBarred_39 : decode cX11_isBarred 39 = .ok (.imul, 1) := by decide +kernel
theorem dX11_isBarred_40 : decode cX11_isBarred 40 = .ok (.iadd, 1) := by decide +kernel
theorem dX11_isBarred_41 : decode cX11_isBarred 41 = .ok (.iload_n 3, 1) := by decide +kernel
theorem dX11_isBarred_42 : decode cX11_isBarred 42 = .ok (.aload_n 0, 1) := by decide +kernel
theorem dX11_isBarred_43 : decode cX11_isBarred 43 = .ok (.iload 5, 2) := by decide +kernel
theorem dX11_isBarred_45 : decode cX11_isBarred 45 = .ok (.iconst 2, 1) := by decide +kernel
theorem dX11_isBarred_46 : decode cX11_isBarred 46 = .ok (.invokevirtual 98, 3) := by decide +kernel
theorem dX11_isBarred_49 : decode cX11_isBarred 49 = .ok (.imul, 1) := by decide +kernel
theorem dX11_isBarred_50 : decode cX11_isBarred 50 = .ok (.iadd, 1) := by decide +kernel
theorem dX11_isBarred_51 : decode cX11_isBarred 51 = .ok (.ifCond .gt 7, 3) := by decide +kernel
theorem dX11_isBarred_54 : decode cX11_isBarred 54 = .ok (.iconst 1, 1) := by decide +kernel
theorem dX11_isBarred_55 : decode cX11_isBarred 55 = .ok (.goto 4, 3) := by decide +kernel
theorem dX11_isBarred_58 : decode cX11_isBarred 58 = .ok (.iconst 0, 1) := by decide +kernel
theorem dX11_isBarred_59 : decode cX11_isBarred 59 = .ok (.istore 4, 2) := by decide +kernel
theorem dX11_isBarred_61 : decode cX11_isBarred 61 = .ok (.iinc 5 1, 3) := by decide +kernel
theorem dX11_isBarred_64 : decode cX11_isBarred 64 = .ok (.goto (-58), 3) := by decide +kernel
theorem dX11_isBarred_67 : decode cX11_isBarred 67 = .ok (.iload 4, 2) := by decide +kernel
theorem dX11_isBarred_69 : decode cX11_isBarred 69 = .ok (.ireturn, 1) := by decide +kernel
theorem dX11_isBarredBoth_0 : decode cX11_isBarredBoth 0 = .ok (.aload_n 0, 1) := by decide +kernel
theorem dX11_isBarredBoth_1 : decode cX11_isBarredBoth 1 = .ok (.iload_n 1, 1) := by decide +kernel
theorem dX11_isBarredBoth_2 : decode cX11_isBarredBoth 2 = .ok (.iload_n 2, 1) := by decide +kernel
theorem dX11_isBarredBoth_3 : decode cX11_isBarredBoth 3 = .ok (.iload_n 3, 1) := by decide +kernel
theorem dX11_isBarredBoth_4 : decode cX11_isBarredBoth 4 = .ok (.invokevirtual 155, 3) := by decide +kernel
theorem dX11_isBarredBoth_7 : decode cX11_isBarredBoth 7 = .ok (.ifCond .ne 16, 3) := by decide +kernel
theorem dX11_isBarredBoth_10 : decode cX11_isBarredBoth 10 = .ok (.aload_n 0, 1) := by decide +kernel
theorem dX11_isBarredBoth_11 : decode cX11_isBarredBoth 11 = .ok (.iload_n 1, 1) := by decide +kernel
theorem dX11_isBarredBoth_12 : decode cX11_isBarredBoth 12 = .ok (.ineg, 1) := by decide +kernel
theorem dX11_isBarredBoth_13 : decode cX11_isBarredBoth 13 = .ok (.iload_n 2, 1) := by decide +kernel
theorem dX11_isBarredBoth_14 : decode cX11_isBarredBoth 14 = .ok (.ineg, 1) := by decide +kernel
theorem dX11_isBarredBoth_15 : decode cX11_isBarredBoth 15 = .ok (.iload_n 3, 1) := by decide +kernel
theorem dX11_isBarredBoth_16 : decode cX11_isBarredBoth 16 = .ok (.ineg, 1) := by decide +kernel
theorem dX11_isBarredBoth_17 : decode cX11_isBarredBoth 17 = .ok (.invokevirtual 155, 3) := by decide +kernel
theorem dX11_isBarredBoth_20 : decode cX11_isBarredBoth 20 = .ok (.ifCond .eq 7, 3) := by decide +kernel
theorem dX11_isBarredBoth_23 : decode cX11_isBarredBoth 23 = .ok (.iconst 1, 1) := by decide +kernel
theorem dX11_isBarredBoth_24 : decode cX11_isBarredBoth 24 = .ok (.goto 4, 3) := by decide +kernel
theorem dX11_isBarredBoth_27 : decode cX11_isBarredBoth 27 = .ok (.iconst 0, 1) := by decide +kernel
theorem dX11_isBarredBoth_28 : decode cX11_isBarredBoth 28 = .ok (.ireturn, 1) := by decide +kernel
theorem dX11_spanThree_0 : decode cX11_spanThree 0 = .ok (.iconst 0, 1) := by decide +kernel
theorem dX11_spanThree_1 : decode cX11_spanThree 1 = .ok (.istore_n 1, 1) := by decide +kernel
theorem dX11_spanThree_2 : decode cX11_spanThree 2 = .ok (.iconst 0, 1) := by decide +kernel
theorem dX11_spanThree_3 : decode cX11_spanThree 3 = .ok (.istore_n 2, 1) := by decide +kernel
theorem dX11_spanThree_4 : decode cX11_spanThree 4 = .ok (.iconst 0, 1) := by decide +kernel
theorem dX11_spanThree_5 : decode cX11_spanThree 5 = .ok (.istore_n 3, 1) := by decide +kernel
theorem dX11_spanThree_6 : decode cX11_spanThree 6 = .ok (.iload_n 3, 1) := by decide +kernel
theorem dX11_spanThree_7 : decode cX11_spanThree 7 = .ok (.aload_n 0, 1) := by decide +kernel
theorem dX11_spanThree_8 : decode cX11_spanThree 8 = .ok (.getfield 7, 3) := by decide +kernel
theorem dX11_spanThree_11 : decode cX11_spanThree 11 = .ok (.iconst 2, 1) := by decide +kernel
theorem dX11_spanThree_12 : decode cX11_spanThree 12 = .ok (.iaload, 1) := by decide +kernel
theorem dX11_spanThree_13 : decode cX11_spanThree 13 = .ok (.if_icmp .ge 182, 3) := by decide +kernel
theorem dX11_spanThree_16 : decode cX11_spanThree 16 = .ok (.iconst 0, 1) := by decide +kernel
theorem dX11_spanThree_17 : decode cX11_spanThree 17 = .ok (.istore 4, 2) := by decide +kernel
theorem dX11_spanThree_19 : decode cX11_spanThree 19 = .ok (.iload 4, 2) := by decide +kernel
theorem dX11_spanThree_21 : decode cX11_spanThree 21 = .ok (.iload_n 3, 1) := by decide +kernel
theorem dX11_spanThree_22 : decode cX11_spanThree 22 = .ok (.if_icmp .ge 167, 3) := by decide +kernel
theorem dX11_spanThree_25 : decode cX11_spanThree 25 = .ok (.aload_n 0, 1) := by decide +kernel
theorem dX11_spanThree_26 : decode cX11_spanThree 26 = .ok (.iload_n 3, 1) := by decide +kernel
theorem dX11_spanThree_27 : decode cX11_spanThree 27 = .ok (.iconst 1, 1) := by decide +kernel
theorem dX11_spanThree_28 : decode cX11_spanThree 28 = .ok (.invokevirtual 98, 3) := by decide +kernel
theorem dX11_spanThree_31 : decode cX11_spanThree 31 = .ok (.aload_n 0, 1) := by decide +kernel
theorem dX11_spanThree_32 : decode cX11_spanThree 32 = .ok (.iload 4, 2) := by decide +kernel
theorem dX11_spanThree_34 : decode cX11_spanThree 34 = .ok (.iconst 2, 1) := by decide +kernel
theorem dX11_spanThree_35 : decode cX11_spanThree 35 = .ok (.invokevirtual 98, 3) := by decide +kernel
theorem dX11_spanThree_38 : decode cX11_spanThree 38 = .ok (.imul, 1) := by decide +kernel
theorem dX11_spanThree_39 : decode cX11_spanThree 39 = .ok (.aload_n 0, 1) := by decide +kernel
theorem dX11_spanThree_40 : decode cX11_spanThree 40 = .ok (.iload_n 3, 1) := by decide +kernel
theorem dX11_spanThree_41 : decode cX11_spanThree 41 = .ok (.iconst 2, 1) := by decide +kernel
theorem dX11_spanThree_42 : decode cX11_spanThree 42 = .ok (.invokevirtual 98, 3) := by decide +kernel
theorem dX11_spanThree_45 : decode cX11_spanThree 45 = .ok (.aload_n 0, 1) := by decide +kernel
theorem dX11_spanThree_46 : decode cX11_spanThree 46 = .ok (.iload 4, 2) := by decide +kernel
theorem dX11_spanThree_48 : decode cX11_spanThree 48 = .ok (.iconst 1, 1) := by decide +kernel
theorem dX11_spanThree_49 : decode cX11_spanThree 49 = .ok (.invokevirtual 98, 3) := by decide +kernel
theorem dX11_spanThree_52 : decode cX11_spanThree 52 = .ok (.imul, 1) := by decide +kernel
theorem dX11_spanThree_53 : decode cX11_spanThree 53 = .ok (.isub, 1) := by decide +kernel
theorem dX11_spanThree_54 : decode cX11_spanThree 54 = .ok (.istore 5, 2) := by decide +kernel
theorem dX11_spanThree_56 : decode cX11_spanThree 56 = .ok (.aload_n 0, 1) := by decide +kernel
theorem dX11_spanThree_57 : decode cX11_spanThree 57 = .ok (.iload_n 3, 1) := by decide +kernel
theorem dX11_spanThree_58 : decode cX11_spanThree 58 = .ok (.iconst 2, 1) := by decide +kernel
theorem dX11_spanThree_59 : decode cX11_spanThree 59 = .ok (.invokevirtual 98, 3) := by decide +kernel
theorem dX11_spanThree_62 : decode cX11_spanThree 62 = .ok (.aload_n 0, 1) := by decide +kernel
theorem dX11_spanThree_63 : decode cX11_spanThree 63 = .ok (.iload 4, 2) := by decide +kernel
theorem dX11_spanThree_65 : decode cX11_spanThree 65 = .ok (.iconst 0, 1) := by decide +kernel
theorem dX11_spanThree_66 : decode cX11_spanThree 66 = .ok (.invokevirtual 98, 3) := by decide +kernel
theorem dX11_spanThree_69 : decode cX11_spanThree 69 = .ok (.imul, 1) := by decide +kernel
theorem dX11_spanThree_70 : decode cX11_spanThree 70 = .ok (.aload_n 0, 1) := by decide +kernel
theorem dX11_spanThree_71 : decode cX11_spanThree 71 = .ok (.iload_n 3, 1) := by decide +kernel
theorem dX11_spanThree_72 : decode cX11_spanThree 72 = .ok (.iconst 0, 1) := by decide +kernel
theorem dX11_spanThree_73 : decode cX11_spanThree 73 = .ok (.invokevirtual 98, 3) := by decide +kernel
theorem dX11_spanThree_76 : decode cX11_spanThree 76 = .ok (.aload_n 0, 1) := by decide +kernel
theorem dX11_spanThree_77 : decode cX11_spanThree 77 = .ok (.iload 4, 2) := by decide +kernel
theorem dX11_spanThree_79 : decode cX11_spanThree 79 = .ok (.iconst 2, 1) := by decide +kernel
theorem dX11_spanThree_80 : decode cX11_spanThree 80 = .ok (.invokevirtual 98, 3) := by decide +kernel
theorem dX11_spanThree_83 : decode cX11_spanThree 83 = .ok (.imul, 1) := by decide +kernel
theorem dX11_spanThree_84 : decode cX11_spanThree 84 = .ok (.isub, 1) := by decide +kernel
theorem dX11_spanThree_85 : decode cX11_spanThree 85 = .ok (.istore 6, 2) := by decide +kernel
theorem dX11_spanThree_87 : decode cX11_spanThree 87 = .ok (.aload_n 0, 1) := by decide +kernel
theorem dX11_spanThree_88 : decode cX11_spanThree 88 = .ok (.iload_n 3, 1) := by decide +kernel
theorem dX11_spanThree_89 : decode cX11_spanThree 89 = .ok (.iconst 0, 1) := by decide +kernel
theorem dX11_spanThree_90 : decode cX11_spanThree 90 = .ok (.invokevirtual 98, 3) := by decide +kernel
theorem dX11_spanThree_93 : decode cX11_spanThree 93 = .ok (.aload_n 0, 1) := by decide +kernel
theorem dX11_spanThree_94 : decode cX11_spanThree 94 = .ok (.iload 4, 2) := by decide +kernel
theorem dX11_spanThree_96 : decode cX11_spanThree 96 = .ok (.iconst 1, 1) := by decide +kernel
theorem dX11_spanThree_97 : decode cX11_spanThree 97 = .ok (.invokevirtual 98, 3) := by decide +kernel
theorem dX11_spanThree_100 : decode cX11_spanThree 100 = .ok (.imul, 1) := by decide +kernel
theorem dX11_spanThree_101 : decode cX11_spanThree 101 = .ok (.aload_n 0, 1) := by decide +kernel
theorem dX11_spanThree_102 : decode cX11_spanThree 102 = .ok (.iload_n 3, 1) := by decide +kernel
theorem dX11_spanThree_103 : decode cX11_spanThree 103 = .ok (.iconst 1, 1) := by decide +kernel
theorem dX11_spanThree_104 : decode cX11_spanThree 104 = .ok (.invokevirtual 98, 3) := by decide +kernel
theorem dX11_spanThree_107 : decode cX11_spanThree 107 = .ok (.aload_n 0, 1) := by decide +kernel
theorem dX11_spanThree_108 : decode cX11_spanThree 108 = .ok (.iload 4, 2) := by decide +kernel
theorem dX11_spanThree_110 : decode cX11_spanThree 110 = .ok (.iconst 0, 1) := by decide +kernel
theorem dX11_spanThree_111 : decode cX11_spanThree 111 = .ok (.invokevirtual 98, 3) := by decide +kernel
theorem dX11_spanThree_114 : decode cX11_spanThree 114 = .ok (.imul, 1) := by decide +kernel
theorem dX11_spanThree_115 : decode cX11_spanThree 115 = .ok (.isub, 1) := by decide +kernel
theorem dX11_spanThree_116 : decode cX11_spanThree 116 = .ok (.istore 7, 2) := by decide +kernel
theorem dX11_spanThree_118 : decode cX11_spanThree 118 = .ok (.iload 5, 2) := by decide +kernel
theorem dX11_spanThree_120 : decode cX11_spanThree 120 = .ok (.ifCond .ne 13, 3) := by decide +kernel
theorem dX11_spanThree_123 : decode cX11_spanThree 123 = .ok (.iload 6, 2) := by decide +kernel
theorem dX11_spanThree_125 : decode cX11_spanThree 125 = .ok (.ifCond .ne 8, 3) := by decide +kernel
theorem dX11_spanThree_128 : decode cX11_spanThree 128 = .ok (.iload 7, 2) := by decide +kernel
theorem dX11_spanThree_130 : decode cX11_spanThree 130 = .ok (.ifCond .eq 7, 3) := by decide +kernel
theorem dX11_spanThree_133 : decode cX11_spanThree 133 = .ok (.iconst 1, 1) := by decide +kernel
theorem dX11_spanThree_134 : decode cX11_spanThree 134 = .ok (.goto 4, 3) := by decide +kernel
theorem dX11_spanThree_137 : decode cX11_spanThree 137 = .ok (.iconst 0, 1) := by decide +kernel
theorem dX11_spanThree_138 : decode cX11_spanThree 138 = .ok (.istore 8, 2) := by decide +kernel
theorem dX11_spanThree_140 : decode cX11_spanThree 140 = .ok (.iload_n 1, 1) := by decide +kernel
theorem dX11_spanThree_141 : decode cX11_spanThree 141 = .ok (.ifCond .ne 8, 3) := by decide +kernel
theorem dX11_spanThree_144 : decode cX11_spanThree 144 = .ok (.iload 8, 2) := by decide +kernel
theorem dX11_spanThree_146 : decode cX11_spanThree 146 = .ok (.ifCond .eq 7, 3) := by decide +kernel
theorem dX11_spanThree_149 : decode cX11_spanThree 149 = .ok (.iconst 1, 1) := by decide +kernel
theorem dX11_spanThree_150 : decode cX11_spanThree 150 = .ok (.goto 4, 3) := by decide +kernel
theorem dX11_spanThree_153 : decode cX11_spanThree 153 = .ok (.iconst 0, 1) := by decide +kernel
theorem dX11_spanThree_154 : decode cX11_spanThree 154 = .ok (.istore_n 1, 1) := by decide +kernel
theorem dX11_spanThree_155 : decode cX11_spanThree 155 = .ok (.iload_n 2, 1) := by decide +kernel
theorem dX11_spanThree_156 : decode cX11_spanThree 156 = .ok (.ifCond .ne 21, 3) := by decide +kernel
theorem dX11_spanThree_159 : decode cX11_spanThree 159 = .ok (.iload 8, 2) := by decide +kernel
theorem dX11_spanThree_161 : decode cX11_spanThree 161 = .ok (.ifCond .eq 20, 3) := by decide +kernel
theorem dX11_spanThree_164 : decode cX11_spanThree 164 = .ok (.aload_n 0, 1) := by decide +kernel
theorem dX11_spanThree_165 : decode cX11_spanThree 165 = .ok (.iload 5, 2) := by decide +kernel
theorem dX11_spanThree_167 : decode cX11_spanThree 167 = .ok (.iload 6, 2) := by decide +kernel
theorem dX11_spanThree_169 : decode cX11_spanThree 169 = .ok (.iload 7, 2) := by decide +kernel
theorem dX11_spanThree_171 : decode cX11_spanThree 171 = .ok (.invokevirtual 158, 3) := by decide +kernel
theorem dX11_spanThree_174 : decode cX11_spanThree 174 = .ok (.ifCond .eq 7, 3) := by decide +kernel
theorem dX11_spanThree_177 : decode cX11_spanThree 177 = .ok (.iconst 1, 1) := by decide +kernel
theorem dX11_spanThree_178 : decode cX11_spanThree 178 = .ok (.goto 4, 3) := by decide +kernel
theorem dX11_spanThree_181 : decode cX11_spanThree 181 = .ok (.iconst 0, 1) := by decide +kernel
theorem dX11_spanThree_182 : decode cX11_spanThree 182 = .ok (.istore_n 2, 1) := by decide +kernel
theorem dX11_spanThree_183 : decode cX11_spanThree 183 = .ok (.iinc 4 1, 3) := by decide +kernel
theorem dX11_spanThree_186 : decode cX11_spanThree 186 = .ok (.goto (-167), 3) := by decide +kernel
theorem dX11_spanThree_189 : decode cX11_spanThree 189 = .ok (.iinc 3 1, 3) := by decide +kernel
theorem dX11_spanThree_192 : decode cX11_spanThree 192 = .ok (.goto (-186), 3) := by decide +kernel
theorem dX11_spanThree_195 : decode cX11_spanThree 195 = .ok (.iload_n 1, 1) := by decide +kernel
theorem dX11_spanThree_196 : decode cX11_spanThree 196 = .ok (.ifCond .eq 11, 3) := by decide +kernel
theorem dX11_spanThree_199 : decode cX11_spanThree 199 = .ok (.iload_n 2, 1) := by decide +kernel
theorem dX11_spanThree_200 : decode cX11_spanThree 200 = .ok (.ifCond .ne 7, 3) := by decide +kernel
theorem dX11_spanThree_203 : decode cX11_spanThree 203 = .ok (.iconst 1, 1) := by decide +kernel
theorem dX11_spanThree_204 : decode cX11_spanThree 204 = .ok (.goto 4, 3) := by decide +kernel
theorem dX11_spanThree_207 : decode cX11_spanThree 207 = .ok (.iconst 0, 1) := by decide +kernel
theorem dX11_spanThree_208 : decode cX11_spanThree 208 = .ok (.ireturn, 1) := by decide +kernel
theorem dX11_spanTwo_0 : decode cX11_spanTwo 0 = .ok (.aload_n 0, 1) := by decide +kernel
theorem dX11_spanTwo_1 : decode cX11_spanTwo 1 = .ok (.getfield 7, 3) := by decide +kernel
theorem dX11_spanTwo_4 : decode cX11_spanTwo 4 = .ok (.iconst 2, 1) := by decide +kernel
theorem dX11_spanTwo_5 : decode cX11_spanTwo 5 = .ok (.iaload, 1) := by decide +kernel
theorem dX11_spanTwo_6 : decode cX11_spanTwo 6 = .ok (.ifCond .ne 7, 3) := by decide +kernel
theorem dX11_spanTwo_9 : decode cX11_spanTwo 9 = .ok (.iconst 1, 1) := by decide +kernel
theorem dX11_spanTwo_10 : decode cX11_spanTwo 10 = .ok (.goto 4, 3) := by decide +kernel
theorem dX11_spanTwo_13 : decode cX11_spanTwo 13 = .ok (.iconst 0, 1) := by decide +kernel
theorem dX11_spanTwo_14 : decode cX11_spanTwo 14 = .ok (.istore_n 1, 1) := by decide +kernel
theorem dX11_spanTwo_15 : decode cX11_spanTwo 15 = .ok (.iconst 0, 1) := by decide +kernel
theorem dX11_spanTwo_16 : decode cX11_spanTwo 16 = .ok (.istore_n 2, 1) := by decide +kernel
theorem dX11_spanTwo_17 : decode cX11_spanTwo 17 = .ok (.iload_n 2, 1) := by decide +kernel
theorem dX11_spanTwo_18 : decode cX11_spanTwo 18 = .ok (.aload_n 0, 1) := by decide +kernel
theorem dX11_spanTwo_19 : decode cX11_spanTwo 19 = .ok (.getfield 7, 3) := by decide +kernel
theorem dX11_spanTwo_22 : decode cX11_spanTwo 22 = .ok (.iconst 2, 1) := by decide +kernel
theorem dX11_spanTwo_23 : decode cX11_spanTwo 23 = .ok (.iaload, 1) := by decide +kernel
theorem dX11_spanTwo_24 : decode cX11_spanTwo 24 = .ok (.if_icmp .ge 40, 3) := by decide +kernel
theorem dX11_spanTwo_27 : decode cX11_spanTwo 27 = .ok (.iload_n 1, 1) := by decide +kernel
theorem dX11_spanTwo_28 : decode cX11_spanTwo 28 = .ok (.ifCond .ne 24, 3) := by decide +kernel
theorem dX11_spanTwo_31 : decode cX11_spanTwo 31 = .ok (.aload_n 0, 1) := by decide +kernel
theorem dX11_spanTwo_32 : decode cX11_spanTwo 32 = .ok (.aload_n 0, 1) := by decide +kernel
theorem dX11_spanTwo_33 : decode cX11_spanTwo 33 = .ok (.iload_n 2, 1) := by decide +kernel
theorem dX11_spanTwo_34 : decode cX11_spanTwo 34 = .ok (.iconst 1, 1) := by decide +kernel
theorem dX11_spanTwo_35 : decode cX11_spanTwo 35 = .ok (.invokevirtual 98, 3) := by decide +kernel
theorem dX11_spanTwo_38 : decode cX11_spanTwo 38 = .ok (.ineg, 1) := by decide +kernel
theorem dX11_spanTwo_39 : decode cX11_spanTwo 39 = .ok (.aload_n 0, 1) := by decide +kernel
theorem dX11_spanTwo_40 : decode cX11_spanTwo 40 = .ok (.iload_n 2, 1) := by decide +kernel
theorem dX11_spanTwo_41 : decode cX11_spanTwo 41 = .ok (.iconst 0, 1) := by decide +kernel
theorem dX11_spanTwo_42 : decode cX11_spanTwo 42 = .ok (.invokevirtual 98, 3) := by decide +kernel
theorem dX11_spanTwo_45 : decode cX11_spanTwo 45 = .ok (.iconst 0, 1) := by decide +kernel
theorem dX11_spanTwo_46 : decode cX11_spanTwo 46 = .ok (.invokevirtual 158, 3) := by decide +kernel
theorem dX11_spanTwo_49 : decode cX11_spanTwo 49 = .ok (.ifCond .eq 7, 3) := by decide +kernel
theorem dX11_spanTwo_52 : decode cX11_spanTwo 52 = .ok (.iconst 1, 1) := by decide +kernel
theorem dX11_spanTwo_53 : decode cX11_spanTwo 53 = .ok (.goto 4, 3) := by decide +kernel
theorem dX11_spanTwo_56 : decode cX11_spanTwo 56 = .ok (.iconst 0, 1) := by decide +kernel
theorem dX11_spanTwo_57 : decode cX11_spanTwo 57 = .ok (.istore_n 1, 1) := by decide +kernel
theorem dX11_spanTwo_58 : decode cX11_spanTwo 58 = .ok (.iinc 2 1, 3) := by decide +kernel
theorem dX11_spanTwo_61 : decode cX11_spanTwo 61 = .ok (.goto (-44), 3) := by decide +kernel
theorem dX11_spanTwo_64 : decode cX11_spanTwo 64 = .ok (.iload_n 1, 1) := by decide +kernel
theorem dX11_spanTwo_65 : decode cX11_spanTwo 65 = .ok (.ifCond .ne 7, 3) := by decide +kernel
theorem dX11_spanTwo_68 : decode cX11_spanTwo 68 = .ok (.iconst 1, 1) := by decide +kernel
theorem dX11_spanTwo_69 : decode cX11_spanTwo 69 = .ok (.goto 4, 3) := by decide +kernel
theorem dX11_spanTwo_72 : decode cX11_spanTwo 72 = .ok (.iconst 0, 1) := by decide +kernel
theorem dX11_spanTwo_73 : decode cX11_spanTwo 73 = .ok (.ireturn, 1) := by decide +kernel
theorem dX11_spans_0 : decode cX11_spans 0 = .ok (.aload_n 0, 1) := by decide +kernel
theorem dX11_spans_1 : decode cX11_spans 1 = .ok (.getfield 7, 3) := by decide +kernel
theorem dX11_spans_4 : decode cX11_spans 4 = .ok (.iconst 0, 1) := by decide +kernel
theorem dX11_spans_5 : decode cX11_spans 5 = .ok (.iaload, 1) := by decide +kernel
theorem dX11_spans_6 : decode cX11_spans 6 = .ok (.iconst 1, 1) := by decide +kernel
theorem dX11_spans_7 : decode cX11_spans 7 = .ok (.if_icmp .ne 21, 3) := by decide +kernel
theorem dX11_spans_10 : decode cX11_spans 10 = .ok (.aload_n 0, 1) := by decide +kernel
theorem dX11_spans_11 : decode cX11_spans 11 = .ok (.iconst 1, 1) := by decide +kernel
theorem dX11_spans_12 : decode cX11_spans 12 = .ok (.iconst 0, 1) := by decide +kernel
theorem dX11_spans_13 : decode cX11_spans 13 = .ok (.iconst 0, 1) := by decide +kernel
theorem dX11_spans_14 : decode cX11_spans 14 = .ok (.invokevirtual 158, 3) := by decide +kernel
theorem dX11_spans_17 : decode cX11_spans 17 = .ok (.ifCond .ne 7, 3) := by decide +kernel
theorem dX11_spans_20 : decode cX11_spans 20 = .ok (.iconst 1, 1) := by decide +kernel
theorem dX11_spans_21 : decode cX11_spans 21 = .ok (.goto 28, 3) := by decide +kernel
theorem dX11_spans_24 : decode cX11_spans 24 = .ok (.iconst 0, 1) := by decide +kernel
theorem dX11_spans_25 : decode cX11_spans 25 = .ok (.goto 24, 3) := by decide +kernel
theorem dX11_spans_28 : decode cX11_spans 28 = .ok (.aload_n 0, 1) := by decide +kernel
theorem dX11_spans_29 : decode cX11_spans 29 = .ok (.getfield 7, 3) := by decide +kernel
theorem dX11_spans_32 : decode cX11_spans 32 = .ok (.iconst 0, 1) := by decide +kernel
theorem dX11_spans_33 : decode cX11_spans 33 = .ok (.iaload, 1) := by decide +kernel
theorem dX11_spans_34 : decode cX11_spans 34 = .ok (.iconst 2, 1) := by decide +kernel
theorem dX11_spans_35 : decode cX11_spans 35 = .ok (.if_icmp .ne 10, 3) := by decide +kernel
theorem dX11_spans_38 : decode cX11_spans 38 = .ok (.aload_n 0, 1) := by decide +kernel
theorem dX11_spans_39 : decode cX11_spans 39 = .ok (.invokevirtual 161, 3) := by decide +kernel
theorem dX11_spans_42 : decode cX11_spans 42 = .ok (.goto 7, 3) := by decide +kernel
theorem dX11_spans_45 : decode cX11_spans 45 = .ok (.aload_n 0, 1) := by decide +kernel
theorem dX11_spans_46 : decode cX11_spans 46 = .ok (.invokevirtual 164, 3) := by decide +kernel
theorem dX11_spans_49 : decode cX11_spans 49 = .ok (.istore_n 1, 1) := by decide +kernel
theorem dX11_spans_50 : decode cX11_spans 50 = .ok (.iload_n 1, 1) := by decide +kernel
theorem dX11_spans_51 : decode cX11_spans 51 = .ok (.ifCond .eq 7, 3) := by decide +kernel
theorem dX11_spans_54 : decode cX11_spans 54 = .ok (.iconst 1, 1) := by decide +kernel
theorem dX11_spans_55 : decode cX11_spans 55 = .ok (.goto 4, 3) := by decide +kernel
theorem dX11_spans_58 : decode cX11_spans 58 = .ok (.iconst 0, 1) := by decide +kernel
theorem dX11_spans_59 : decode cX11_spans 59 = .ok (.ireturn, 1) := by decide +kernel
theorem dX11_stuck_0 : decode cX11_stuck 0 = .ok (.iload_n 1, 1) := by decide +kernel
theorem dX11_stuck_1 : decode cX11_stuck 1 = .ok (.iconst 0, 1) := by decide +kernel
theorem dX11_stuck_2 : decode cX11_stuck 2 = .ok (.iconst 4, 1) := by decide +kernel
theorem dX11_stuck_3 : decode cX11_stuck 3 = .ok (.invokestatic 48, 3) := by decide +kernel
theorem dX11_stuck_6 : decode cX11_stuck 6 = .ok (.ifCond .ne 6, 3) := by decide +kernel
theorem dX11_stuck_9 : decode cX11_stuck 9 = .ok (.ldc 70, 2) := by decide +kernel
theorem dX11_stuck_11 : decode cX11_stuck 11 = .ok (.ireturn, 1) := by decide +kernel
theorem dX11_stuck_12 : decode cX11_stuck 12 = .ok (.aload_n 0, 1) := by decide +kernel
theorem dX11_stuck_13 : decode cX11_stuck 13 = .ok (.invokevirtual 91, 3) := by decide +kernel
theorem dX11_stuck_16 : decode cX11_stuck 16 = .ok (.ifCond .ne 6, 3) := by decide +kernel
theorem dX11_stuck_19 : decode cX11_stuck 19 = .ok (.ldc 40, 2) := by decide +kernel
theorem dX11_stuck_21 : decode cX11_stuck 21 = .ok (.ireturn, 1) := by decide +kernel
theorem dX11_stuck_22 : decode cX11_stuck 22 = .ok (.iconst 1, 1) := by decide +kernel
theorem dX11_stuck_23 : decode cX11_stuck 23 = .ok (.istore_n 2, 1) := by decide +kernel
theorem dX11_stuck_24 : decode cX11_stuck 24 = .ok (.iconst 0, 1) := by decide +kernel
theorem dX11_stuck_25 : decode cX11_stuck 25 = .ok (.istore_n 3, 1) := by decide +kernel
theorem dX11_stuck_26 : decode cX11_stuck 26 = .ok (.iload_n 3, 1) := by decide +kernel
theorem dX11_stuck_27 : decode cX11_stuck 27 = .ok (.aload_n 0, 1) := by decide +kernel
theorem dX11_stuck_28 : decode cX11_stuck 28 = .ok (.getfield 7, 3) := by decide +kernel
theorem dX11_stuck_31 : decode cX11_stuck 31 = .ok (.iconst 2, 1) := by decide +kernel
theorem dX11_stuck_32 : decode cX11_stuck 32 = .ok (.iaload, 1) := by decide +kernel
theorem dX11_stuck_33 : decode cX11_stuck 33 = .ok (.if_icmp .ge 47, 3) := by decide +kernel
theorem dX11_stuck_36 : decode cX11_stuck 36 = .ok (.iload_n 2, 1) := by decide +kernel
theorem dX11_stuck_37 : decode cX11_stuck 37 = .ok (.ifCond .eq 35, 3) := by decide +kernel
theorem dX11_stuck_40 : decode cX11_stuck 40 = .ok (.aload_n 0, 1) := by decide +kernel
theorem dX11_stuck_41 : decode cX11_stuck 41 = .ok (.iload_n 3, 1) := by decide +kernel
theorem dX11_stuck_42 : decode cX11_stuck 42 = .ok (.iconst 1, 1) := by decide +kernel
theorem dX11_stuck_43 : decode cX11_stuck 43 = .ok (.iload_n 1, 1) := by decide +kernel
theorem dX11_stuck_44 : decode cX11_stuck 44 = .ok (.ishl, 1) := by decide +kernel
theorem dX11_stuck_45 : decode cX11_stuck 45 = .ok (.invokevirtual 124, 3) := by decide +kernel
theorem dX11_stuck_48 : decode cX11_stuck 48 = .ok (.ifCond .eq 20, 3) := by decide +kernel
theorem dX11_stuck_51 : decode cX11_stuck 51 = .ok (.aload_n 0, 1) := by decide +kernel
theorem dX11_stuck_52 : decode cX11_stuck 52 = .ok (.iload_n 3, 1) := by decide +kernel
theorem dX11_stuck_53 : decode cX11_stuck 53 = .ok (.iconst 1, 1) := by decide +kernel
theorem dX11_stuck_54 : decode cX11_stuck 54 = .ok (.iload_n 1, 1) := by decide +kernel
theorem dX11_stuck_55 : decode cX11_stuck 55 = .ok (.ishl, 1) := by decide +kernel
theorem dX11_stuck_56 : decode cX11_stuck 56 = .ok (.iconst 0, 1) := by decide +kernel
theorem dX11_stuck_57 : decode cX11_stuck 57 = .ok (.invokevirtual 117, 3) := by decide +kernel
theorem dX11_stuck_60 : decode cX11_stuck 60 = .ok (.aload_n 0, 1) := by decide +kernel
theorem dX11_stuck_61 : decode cX11_stuck 61 = .ok (.invokevirtual 137, 3) := by decide +kernel
theorem dX11_stuck_64 : decode cX11_stuck 64 = .ok (.lcmp, 1) := by decide +kernel
theorem dX11_stuck_65 : decode cX11_stuck 65 = .ok (.ifCond .lt 7, 3) := by decide +kernel
theorem dX11_stuck_68 : decode cX11_stuck 68 = .ok (.iconst 1, 1) := by decide +kernel
theorem dX11_stuck_69 : decode cX11_stuck 69 = .ok (.goto 4, 3) := by decide +kernel
theorem dX11_stuck_72 : decode cX11_stuck 72 = .ok (.iconst 0, 1) := by decide +kernel
theorem dX11_stuck_73 : decode cX11_stuck 73 = .ok (.istore_n 2, 1) := by decide +kernel
theorem dX11_stuck_74 : decode cX11_stuck 74 = .ok (.iinc 3 1, 3) := by decide +kernel
theorem dX11_stuck_77 : decode cX11_stuck 77 = .ok (.goto (-51), 3) := by decide +kernel
theorem dX11_stuck_80 : decode cX11_stuck 80 = .ok (.iload_n 2, 1) := by decide +kernel
theorem dX11_stuck_81 : decode cX11_stuck 81 = .ok (.ifCond .eq 7, 3) := by decide +kernel
theorem dX11_stuck_84 : decode cX11_stuck 84 = .ok (.iconst 1, 1) := by decide +kernel
theorem dX11_stuck_85 : decode cX11_stuck 85 = .ok (.goto 4, 3) := by decide +kernel
theorem dX11_stuck_88 : decode cX11_stuck 88 = .ok (.iconst 0, 1) := by decide +kernel
theorem dX11_stuck_89 : decode cX11_stuck 89 = .ok (.ireturn, 1) := by decide +kernel
theorem dX11_layAround_0 : decode cX11_layAround 0 = .ok (.iconst 1, 1) := by decide +kernel
theorem dX11_layAround_1 : decode cX11_layAround 1 = .ok (.aload_n 0, 1) := by decide +kernel
theorem dX11_layAround_2 : decode cX11_layAround 2 = .ok (.getfield 7, 3) := by decide +kernel
theorem dX11_layAround_5 : decode cX11_layAround 5 = .ok (.iconst 3, 1) := by decide +kernel
theorem dX11_layAround_6 : decode cX11_layAround 6 = .ok (.iaload, 1) := by decide +kernel
theorem dX11_layAround_7 : decode cX11_layAround 7 = .ok (.ishl, 1) := by decide +kernel
theorem dX11_layAround_8 : decode cX11_layAround 8 = .ok (.istore_n 2, 1) := by decide +kernel
theorem dX11_layAround_9 : decode cX11_layAround 9 = .ok (.aload_n 0, 1) := by decide +kernel
theorem dX11_layAround_10 : decode cX11_layAround 10 = .ok (.getfield 7, 3) := by decide +kernel
theorem dX11_layAround_13 : decode cX11_layAround 13 = .ok (.iconst 0, 1) := by decide +kernel
theorem dX11_layAround_14 : decode cX11_layAround 14 = .ok (.iaload, 1) := by decide +kernel
theorem dX11_layAround_15 : decode cX11_layAround 15 = .ok (.iconst 1, 1) := by decide +kernel
theorem dX11_layAround_16 : decode cX11_layAround 16 = .ok (.if_icmp .le 7, 3) := by decide +kernel
theorem dX11_layAround_19 : decode cX11_layAround 19 = .ok (.iload_n 1, 1) := by decide +kernel
theorem dX11_layAround_20 : decode cX11_layAround 20 = .ok (.goto 4, 3) := by decide +kernel
theorem dX11_layAround_23 : decode cX11_layAround 23 = .ok (.iconst 0, 1) := by decide +kernel
theorem dX11_layAround_24 : decode cX11_layAround 24 = .ok (.istore_n 3, 1) := by decide +kernel
theorem dX11_layAround_25 : decode cX11_layAround 25 = .ok (.aload_n 0, 1) := by decide +kernel
theorem dX11_layAround_26 : decode cX11_layAround 26 = .ok (.getfield 7, 3) := by decide +kernel
theorem dX11_layAround_29 : decode cX11_layAround 29 = .ok (.iconst 0, 1) := by decide +kernel
theorem dX11_layAround_30 : decode cX11_layAround 30 = .ok (.iaload, 1) := by decide +kernel
theorem dX11_layAround_31 : decode cX11_layAround 31 = .ok (.iconst 2, 1) := by decide +kernel
theorem dX11_layAround_32 : decode cX11_layAround 32 = .ok (.if_icmp .le 7, 3) := by decide +kernel
theorem dX11_layAround_35 : decode cX11_layAround 35 = .ok (.iload_n 1, 1) := by decide +kernel
theorem dX11_layAround_36 : decode cX11_layAround 36 = .ok (.goto 4, 3) := by decide +kernel
theorem dX11_layAround_39 : decode cX11_layAround 39 = .ok (.iconst 0, 1) := by decide +kernel
theorem dX11_layAround_40 : decode cX11_layAround 40 = .ok (.istore 4, 2) := by decide +kernel
theorem dX11_layAround_42 : decode cX11_layAround 42 = .ok (.lconst 0, 1) := by decide +kernel
theorem dX11_layAround_43 : decode cX11_layAround 43 = .ok (.lstore 5, 2) := by decide +kernel
theorem dX11_layAround_45 : decode cX11_layAround 45 = .ok (.iconst 0, 1) := by decide +kernel
theorem dX11_layAround_46 : decode cX11_layAround 46 = .ok (.istore 7, 2) := by decide +kernel
theorem dX11_layAround_48 : decode cX11_layAround 48 = .ok (.iload_n 1, 1) := by decide +kernel
theorem dX11_layAround_49 : decode cX11_layAround 49 = .ok (.ineg, 1) := by decide +kernel
theorem dX11_layAround_50 : decode cX11_layAround 50 = .ok (.istore 8, 2) := by decide +kernel
theorem dX11_layAround_52 : decode cX11_layAround 52 = .ok (.iload 8, 2) := by decide +kernel
theorem dX11_layAround_54 : decode cX11_layAround 54 = .ok (.iload_n 1, 1) := by decide +kernel
theorem dX11_layAround_55 : decode cX11_layAround 55 = .ok (.if_icmp .gt 160, 3) := by decide +kernel
theorem dX11_layAround_58 : decode cX11_layAround 58 = .ok (.iload_n 3, 1) := by decide +kernel
theorem dX11_layAround_59 : decode cX11_layAround 59 = .ok (.ineg, 1) := by decide +kernel
theorem dX11_layAround_60 : decode cX11_layAround 60 = .ok (.istore 9, 2) := by decide +kernel
theorem dX11_layAround_62 : decode cX11_layAround 62 = .ok (.iload 9, 2) := by decide +kernel
theorem dX11_layAround_64 : decode cX11_layAround 64 = .ok (.iload_n 3, 1) := by decide +kernel
theorem dX11_layAround_65 : decode cX11_layAround 65 = .ok (.if_icmp .gt 144, 3) := by decide +kernel
theorem dX11_layAround_68 : decode cX11_layAround 68 = .ok (.iload 4, 2) := by decide +kernel
theorem dX11_layAround_70 : decode cX11_layAround 70 = .ok (.ineg, 1) := by decide +kernel
theorem dX11_layAround_71 : decode cX11_layAround 71 = .ok (.istore 10, 2) := by decide +kernel
theorem dX11_layAround_73 : decode cX11_layAround 73 = .ok (.iload 10, 2) := by decide +kernel
theorem dX11_layAround_75 : decode cX11_layAround 75 = .ok (.iload 4, 2) := by decide +kernel
theorem dX11_layAround_77 : decode cX11_layAround 77 = .ok (.if_icmp .gt 126, 3) := by decide +kernel
theorem dX11_layAround_80 : decode cX11_layAround 80 = .ok (.aload_n 0, 1) := by decide +kernel
theorem dX11_layAround_81 : decode cX11_layAround 81 = .ok (.getfield 7, 3) := by decide +kernel
theorem dX11_layAround_84 : decode cX11_layAround 84 = .ok (.bipush 18, 2) := by decide +kernel
theorem dX11_layAround_86 : decode cX11_layAround 86 = .ok (.iaload, 1) := by decide +kernel
theorem dX11_layAround_87 : decode cX11_layAround 87 = .ok (.iload_n 2, 1) := by decide +kernel
theorem dX11_layAround_88 : decode cX11_layAround 88 = .ok (.iload 8, 2) := by decide +kernel
theorem dX11_layAround_90 : decode cX11_layAround 90 = .ok (.imul, 1) := by decide +kernel
theorem dX11_layAround_91 : decode cX11_layAround 91 = .ok (.iadd, 1) := by decide +kernel
theorem dX11_layAround_92 : decode cX11_layAround 92 = .ok (.istore 11, 2) := by decide +kernel
theorem dX11_layAround_94 : decode cX11_layAround 94 = .ok (.aload_n 0, 1) := by decide +kernel
theorem dX11_layAround_95 : decode cX11_layAround 95 = .ok (.getfield 7, 3) := by decide +kernel
theorem dX11_layAround_98 : decode cX11_layAround 98 = .ok (.bipush 19, 2) := by decide +kernel
theorem dX11_layAround_100 : decode cX11_layAround 100 = .ok (.iaload, 1) := by decide +kernel
theorem dX11_layAround_101 : decode cX11_layAround 101 = .ok (.iload_n 2, 1) := by decide +kernel
theorem dX11_layAround_102 : decode cX11_layAround 102 = .ok (.iload 9, 2) := by decide +kernel
theorem dX11_layAround_104 : decode cX11_layAround 104 = .ok (.imul, 1) := by decide +kernel
theorem dX11_layAround_105 : decode cX11_layAround 105 = .ok (.iadd, 1) := by decide +kernel
theorem dX11_layAround_106 : decode cX11_layAround 106 = .ok (.istore 12, 2) := by decide +kernel
theorem dX11_layAround_108 : decode cX11_layAround 108 = .ok (.aload_n 0, 1) := by decide +kernel
theorem dX11_layAround_109 : decode cX11_layAround 109 = .ok (.getfield 7, 3) := by decide +kernel
theorem dX11_layAround_112 : decode cX11_layAround 112 = .ok (.bipush 20, 2) := by decide +kernel
theorem dX11_layAround_114 : decode cX11_layAround 114 = .ok (.iaload, 1) := by decide +kernel
theorem dX11_layAround_115 : decode cX11_layAround 115 = .ok (.iload_n 2, 1) := by decide +kernel
theorem dX11_layAround_116 : decode cX11_layAround 116 = .ok (.iload 10, 2) := by decide +kernel
theorem dX11_layAround_118 : decode cX11_layAround 118 = .ok (.imul, 1) := by decide +kernel
theorem dX11_layAround_119 : decode cX11_layAround 119 = .ok (.iadd, 1) := by decide +kernel
theorem dX11_layAround_120 : decode cX11_layAround 120 = .ok (.istore 13, 2) := by decide +kernel
theorem dX11_layAround_122 : decode cX11_layAround 122 = .ok (.aload_n 0, 1) := by decide +kernel
theorem dX11_layAround_123 : decode cX11_layAround 123 = .ok (.iload 11, 2) := by decide +kernel
theorem dX11_layAround_125 : decode cX11_layAround 125 = .ok (.iload 12, 2) := by decide +kernel
theorem dX11_layAround_127 : decode cX11_layAround 127 = .ok (.iload 13, 2) := by decide +kernel
theorem dX11_layAround_129 : decode cX11_layAround 129 = .ok (.invokevirtual 84, 3) := by decide +kernel
theorem dX11_layAround_132 : decode cX11_layAround 132 = .ok (.ifCond .eq 65, 3) := by decide +kernel
theorem dX11_layAround_135 : decode cX11_layAround 135 = .ok (.iload 7, 2) := by decide +kernel
theorem dX11_layAround_137 : decode cX11_layAround 137 = .ok (.ifCond .eq 20, 3) := by decide +kernel
theorem dX11_layAround_140 : decode cX11_layAround 140 = .ok (.aload_n 0, 1) := by decide +kernel
theorem dX11_layAround_141 : decode cX11_layAround 141 = .ok (.iload 11, 2) := by decide +kernel
theorem dX11_layAround_143 : decode cX11_layAround 143 = .ok (.iload 12, 2) := by decide +kernel
theorem dX11_layAround_145 : decode cX11_layAround 145 = .ok (.iload 13, 2) := by decide +kernel
theorem dX11_layAround_147 : decode cX11_layAround 147 = .ok (.iconst 0, 1) := by decide +kernel
theorem dX11_layAround_148 : decode cX11_layAround 148 = .ok (.invokevirtual 64, 3) := by decide +kernel
theorem dX11_layAround_151 : decode cX11_layAround 151 = .ok (.lload 5, 2) := by decide +kernel
theorem dX11_layAround_153 : decode cX11_layAround 153 = .ok (.lcmp, 1) := by decide +kernel
theorem dX11_layAround_154 : decode cX11_layAround 154 = .ok (.ifCond .ge 43, 3) := by decide +kernel
theorem dX11_layAround_157 : decode cX11_layAround 157 = .ok (.iconst 1, 1) := by decide +kernel
theorem dX11_layAround_158 : decode cX11_layAround 158 = .ok (.istore 7, 2) := by decide +kernel
theorem dX11_layAround_160 : decode cX11_layAround 160 = .ok (.aload_n 0, 1) := by decide +kernel
theorem dX11_layAround_161 : decode cX11_layAround 161 = .ok (.iload 11, 2) := by decide +kernel
theorem dX11_layAround_163 : decode cX11_layAround 163 = .ok (.iload 12, 2) := by decide +kernel
theorem dX11_layAround_165 : decode cX11_layAround 165 = .ok (.iload 13, 2) := by decide +kernel
theorem dX11_layAround_167 : decode cX11_layAround 167 = .ok (.iconst 0, 1) := by decide +kernel
theorem dX11_layAround_168 : decode cX11_layAround 168 = .ok (.invokevirtual 64, 3) := by decide +kernel
theorem dX11_layAround_171 : decode cX11_layAround 171 = .ok (.lstore 5, 2) := by decide +kernel
theorem dX11_layAround_173 : decode cX11_layAround 173 = .ok (.aload_n 0, 1) := by decide +kernel
theorem dX11_layAround_174 : decode cX11_layAround 174 = .ok (.getfield 26, 3) := by decide +kernel
theorem dX11_layAround_177 : decode cX11_layAround 177 = .ok (.iconst 0, 1) := by decide +kernel
theorem dX11_layAround_178 : decode cX11_layAround 178 = .ok (.iload 11, 2) := by decide +kernel
theorem dX11_layAround_180 : decode cX11_layAround 180 = .ok (.iastore, 1) := by decide +kernel
theorem dX11_layAround_181 : decode cX11_layAround 181 = .ok (.aload_n 0, 1) := by decide +kernel
theorem dX11_layAround_182 : decode cX11_layAround 182 = .ok (.getfield 26, 3) := by decide +kernel
theorem dX11_layAround_185 : decode cX11_layAround 185 = .ok (.iconst 1, 1) := by decide +kernel
theorem dX11_layAround_186 : decode cX11_layAround 186 = .ok (.iload 12, 2) := by decide +kernel
theorem dX11_layAround_188 : decode cX11_layAround 188 = .ok (.iastore, 1) := by decide +kernel
theorem dX11_layAround_189 : decode cX11_layAround 189 = .ok (.aload_n 0, 1) := by decide +kernel
theorem dX11_layAround_190 : decode cX11_layAround 190 = .ok (.getfield 26, 3) := by decide +kernel
theorem dX11_layAround_193 : decode cX11_layAround 193 = .ok (.iconst 2, 1) := by decide +kernel
theorem dX11_layAround_194 : decode cX11_layAround 194 = .ok (.iload 13, 2) := by decide +kernel
theorem dX11_layAround_196 : decode cX11_layAround 196 = .ok (.iastore, 1) := by decide +kernel
theorem dX11_layAround_197 : decode cX11_layAround 197 = .ok (.iinc 10 1, 3) := by decide +kernel
theorem dX11_layAround_200 : decode cX11_layAround 200 = .ok (.goto (-127), 3) := by decide +kernel
theorem dX11_layAround_203 : decode cX11_layAround 203 = .ok (.iinc 9 1, 3) := by decide +kernel
theorem dX11_layAround_206 : decode cX11_layAround 206 = .ok (.goto (-144), 3) := by decide +kernel
theorem dX11_layAround_209 : decode cX11_layAround 209 = .ok (.iinc 8 1, 3) := by decide +kernel
theorem dX11_layAround_212 : decode cX11_layAround 212 = .ok (.goto (-160), 3) := by decide +kernel
theorem dX11_layAround_215 : decode cX11_layAround 215 = .ok (.return_, 1) := by decide +kernel
theorem dX11_around_0 : decode cX11_around 0 = .ok (.iload_n 1, 1) := by decide +kernel
theorem dX11_around_1 : decode cX11_around 1 = .ok (.iconst 0, 1) := by decide +kernel
theorem dX11_around_2 : decode cX11_around 2 = .ok (.iconst 3, 1) := by decide +kernel
theorem dX11_around_3 : decode cX11_around 3 = .ok (.invokestatic 48, 3) := by decide +kernel
theorem dX11_around_6 : decode cX11_around 6 = .ok (.ifCond .eq 12, 3) := by decide +kernel
theorem dX11_around_9 : decode cX11_around 9 = .ok (.iload_n 2, 1) := by decide +kernel
theorem dX11_around_10 : decode cX11_around 10 = .ok (.iconst 0, 1) := by decide +kernel
theorem dX11_around_11 : decode cX11_around 11 = .ok (.iconst 2, 1) := by decide +kernel
theorem dX11_around_12 : decode cX11_around 12 = .ok (.invokestatic 48, 3) := by decide +kernel
theorem dX11_around_15 : decode cX11_around 15 = .ok (.ifCond .ne 6, 3) := by decide +kernel
theorem dX11_around_18 : decode cX11_around 18 = .ok (.ldc 70, 2) := by decide +kernel
theorem dX11_around_20 : decode cX11_around 20 = .ok (.ireturn, 1) := by decide +kernel
theorem dX11_around_21 : decode cX11_around 21 = .ok (.aload_n 0, 1) := by decide +kernel
theorem dX11_around_22 : decode cX11_around 22 = .ok (.invokevirtual 91, 3) := by decide +kernel
theorem dX11_around_25 : decode cX11_around 25 = .ok (.ifCond .ne 6, 3) := by decide +kernel
theorem dX11_around_28 : decode cX11_around 28 = .ok (.ldc 40, 2) := by decide +kernel
theorem dX11_around_30 : decode cX11_around 30 = .ok (.ireturn, 1) := by decide +kernel
theorem dX11_around_31 : decode cX11_around 31 = .ok (.aload_n 0, 1) := by decide +kernel
theorem dX11_around_32 : decode cX11_around 32 = .ok (.iload_n 1, 1) := by decide +kernel
theorem dX11_around_33 : decode cX11_around 33 = .ok (.invokevirtual 167, 3) := by decide +kernel
theorem dX11_around_36 : decode cX11_around 36 = .ok (.aload_n 0, 1) := by decide +kernel
theorem dX11_around_37 : decode cX11_around 37 = .ok (.getfield 26, 3) := by decide +kernel
theorem dX11_around_40 : decode cX11_around 40 = .ok (.iload_n 2, 1) := by decide +kernel
theorem dX11_around_41 : decode cX11_around 41 = .ok (.iaload, 1) := by decide +kernel
theorem dX11_around_42 : decode cX11_around 42 = .ok (.ireturn, 1) := by decide +kernel
theorem dX11_type_0 : decode cX11_type 0 = .ok (.iload_n 1, 1) := by decide +kernel
theorem dX11_type_1 : decode cX11_type 1 = .ok (.bipush 32, 2) := by decide +kernel
theorem dX11_type_3 : decode cX11_type 3 = .ok (.bipush 126, 2) := by decide +kernel
theorem dX11_type_5 : decode cX11_type 5 = .ok (.invokestatic 48, 3) := by decide +kernel
theorem dX11_type_8 : decode cX11_type 8 = .ok (.ifCond .ne 6, 3) := by decide +kernel
theorem dX11_type_11 : decode cX11_type 11 = .ok (.ldc 70, 2) := by decide +kernel
theorem dX11_type_13 : decode cX11_type 13 = .ok (.ireturn, 1) := by decide +kernel
theorem dX11_type_14 : decode cX11_type 14 = .ok (.aload_n 0, 1) := by decide +kernel
theorem dX11_type_15 : decode cX11_type 15 = .ok (.getfield 152, 3) := by decide +kernel
theorem dX11_type_18 : decode cX11_type 18 = .ok (.bipush 60, 2) := by decide +kernel
theorem dX11_type_20 : decode cX11_type 20 = .ok (.if_icmp .ne 6, 3) := by decide +kernel
theorem dX11_type_23 : decode cX11_type 23 = .ok (.ldc 75, 2) := by decide +kernel
theorem dX11_type_25 : decode cX11_type 25 = .ok (.ireturn, 1) := by decide +kernel
theorem dX11_type_26 : decode cX11_type 26 = .ok (.aload_n 0, 1) := by decide +kernel
theorem dX11_type_27 : decode cX11_type 27 = .ok (.getfield 19, 3) := by decide +kernel
theorem dX11_type_30 : decode cX11_type 30 = .ok (.aload_n 0, 1) := by decide +kernel
theorem dX11_type_31 : decode cX11_type 31 = .ok (.getfield 152, 3) := by decide +kernel
theorem dX11_type_34 : decode cX11_type 34 = .ok (.iload_n 1, 1) := by decide +kernel
theorem dX11_type_35 : decode cX11_type 35 = .ok (.i2c, 1) := by decide +kernel
theorem dX11_type_36 : decode cX11_type 36 = .ok (.castore, 1) := by decide +kernel
theorem dX11_type_37 : decode cX11_type 37 = .ok (.aload_n 0, 1) := by decide +kernel
theorem dX11_type_38 : decode cX11_type 38 = .ok (.dup, 1) := by decide +kernel
theorem dX11_type_39 : decode cX11_type 39 = .ok (.getfield 152, 3) := by decide +kernel
theorem dX11_type_42 : decode cX11_type 42 = .ok (.iconst 1, 1) := by decide +kernel
theorem dX11_type_43 : decode cX11_type 43 = .ok (.iadd, 1) := by decide +kernel
theorem dX11_type_44 : decode cX11_type 44 = .ok (.putfield 152, 3) := by decide +kernel
theorem dX11_type_47 : decode cX11_type 47 = .ok (.aload_n 0, 1) := by decide +kernel
theorem dX11_type_48 : decode cX11_type 48 = .ok (.getfield 152, 3) := by decide +kernel
theorem dX11_type_51 : decode cX11_type 51 = .ok (.ireturn, 1) := by decide +kernel
theorem dX11_clearText_0 : decode cX11_clearText 0 = .ok (.aload_n 0, 1) := by decide +kernel
theorem dX11_clearText_1 : decode cX11_clearText 1 = .ok (.getfield 152, 3) := by decide +kernel
theorem dX11_clearText_4 : decode cX11_clearText 4 = .ok (.istore_n 1, 1) := by decide +kernel
theorem dX11_clearText_5 : decode cX11_clearText 5 = .ok (.aload_n 0, 1) := by decide +kernel
theorem dX11_clearText_6 : decode cX11_clearText 6 = .ok (.iconst 0, 1) := by decide +kernel
theorem dX11_clearText_7 : decode cX11_clearText 7 = .ok (.putfield 152, 3) := by decide +kernel
theorem dX11_clearText_10 : decode cX11_clearText 10 = .ok (.iload_n 1, 1) := by decide +kernel
theorem dX11_clearText_11 : decode cX11_clearText 11 = .ok (.ireturn, 1) := by decide +kernel
theorem dX11_letter_0 : decode cX11_letter 0 = .ok (.iload_n 1, 1) := by decide +kernel
theorem dX11_letter_1 : decode cX11_letter 1 = .ok (.aload_n 0, 1) := by decide +kernel
theorem dX11_letter_2 : decode cX11_letter 2 = .ok (.getfield 152, 3) := by decide +kernel
theorem dX11_letter_5 : decode cX11_letter 5 = .ok (.if_icmp .ge 12, 3) := by decide +kernel
theorem dX11_letter_8 : decode cX11_letter 8 = .ok (.aload_n 0, 1) := by decide +kernel
theorem dX11_letter_9 : decode cX11_letter 9 = .ok (.getfield 19, 3) := by decide +kernel
theorem dX11_letter_12 : decode cX11_letter 12 = .ok (.iload_n 1, 1) := by decide +kernel
theorem dX11_letter_13 : decode cX11_letter 13 = .ok (.caload, 1) := by decide +kernel
theorem dX11_letter_14 : decode cX11_letter 14 = .ok (.goto 4, 3) := by decide +kernel
theorem dX11_letter_17 : decode cX11_letter 17 = .ok (.iconst (-1), 1) := by decide +kernel
theorem dX11_letter_18 : decode cX11_letter 18 = .ok (.ireturn, 1) := by decide +kernel
theorem dX11_fail_0 : decode cX11_fail 0 = .ok (.aload_n 0, 1) := by decide +kernel
theorem dX11_fail_1 : decode cX11_fail 1 = .ok (.getfield 170, 3) := by decide +kernel
theorem dX11_fail_4 : decode cX11_fail 4 = .ok (.ifCond .ne 16, 3) := by decide +kernel
theorem dX11_fail_7 : decode cX11_fail 7 = .ok (.aload_n 0, 1) := by decide +kernel
theorem dX11_fail_8 : decode cX11_fail 8 = .ok (.iload_n 1, 1) := by decide +kernel
theorem dX11_fail_9 : decode cX11_fail 9 = .ok (.putfield 170, 3) := by decide +kernel
theorem dX11_fail_12 : decode cX11_fail 12 = .ok (.aload_n 0, 1) := by decide +kernel
theorem dX11_fail_13 : decode cX11_fail 13 = .ok (.aload_n 0, 1) := by decide +kernel
theorem dX11_fail_14 : decode cX11_fail 14 = .ok (.getfield 173, 3) := by decide +kernel
theorem dX11_fail_17 : decode cX11_fail 17 = .ok (.putfield 176, 3) := by decide +kernel
theorem dX11_fail_20 : decode cX11_fail 20 = .ok (.return_, 1) := by decide +kernel
theorem dX11_isDigit_0 : decode cX11_isDigit 0 = .ok (.aload_n 0, 1) := by decide +kernel
theorem dX11_isDigit_1 : decode cX11_isDigit 1 = .ok (.iload_n 1, 1) := by decide +kernel
theorem dX11_isDigit_2 : decode cX11_isDigit 2 = .ok (.invokevirtual 179, 3) := by decide +kernel
theorem dX11_isDigit_5 : decode cX11_isDigit 5 = .ok (.bipush 48, 2) := by decide +kernel
theorem dX11_isDigit_7 : decode cX11_isDigit 7 = .ok (.if_icmp .lt 17, 3) := by decide +kernel
theorem dX11_isDigit_10 : decode cX11_isDigit 10 = .ok (.aload_n 0, 1) := by decide +kernel
theorem dX11_isDigit_11 : decode cX11_isDigit 11 = .ok (.iload_n 1, 1) := by decide +kernel
theorem dX11_isDigit_12 : decode cX11_isDigit 12 = .ok (.invokevirtual 179, 3) := by decide +kernel
theorem dX11_isDigit_15 : decode cX11_isDigit 15 = .ok (.bipush 57, 2) := by decide +kernel
theorem dX11_isDigit_17 : decode cX11_isDigit 17 = .ok (.if_icmp .gt 7, 3) := by decide +kernel
theorem dX11_isDigit_20 : decode cX11_isDigit 20 = .ok (.iconst 1, 1) := by decide +kernel
theorem dX11_isDigit_21 : decode cX11_isDigit 21 = .ok (.goto 4, 3) := by decide +kernel
theorem dX11_isDigit_24 : decode cX11_isDigit 24 = .ok (.iconst 0, 1) := by decide +kernel
theorem dX11_isDigit_25 : decode cX11_isDigit 25 = .ok (.ireturn, 1) := by decide +kernel
theorem dX11_readNumber_0 : decode cX11_readNumber 0 = .ok (.aload_n 0, 1) := by decide +kernel
theorem dX11_readNumber_1 : decode cX11_readNumber 1 = .ok (.aload_n 0, 1) := by decide +kernel
theorem dX11_readNumber_2 : decode cX11_readNumber 2 = .ok (.getfield 173, 3) := by decide +kernel
theorem dX11_readNumber_5 : decode cX11_readNumber 5 = .ok (.invokevirtual 182, 3) := by decide +kernel
theorem dX11_readNumber_8 : decode cX11_readNumber 8 = .ok (.ifCond .ne 5, 3) := by decide +kernel
theorem dX11_readNumber_11 : decode cX11_readNumber 11 = .ok (.iconst 1, 1) := by decide +kernel
theorem dX11_readNumber_12 : decode cX11_readNumber 12 = .ok (.ireturn, 1) := by decide +kernel
theorem dX11_readNumber_13 : decode cX11_readNumber 13 = .ok (.aload_n 0, 1) := by decide +kernel
theorem dX11_readNumber_14 : decode cX11_readNumber 14 = .ok (.aload_n 0, 1) := by decide +kernel
theorem dX11_readNumber_15 : decode cX11_readNumber 15 = .ok (.getfield 173, 3) := by decide +kernel
theorem dX11_readNumber_18 : decode cX11_readNumber 18 = .ok (.invokevirtual 179, 3) := by decide +kernel
theorem dX11_readNumber_21 : decode cX11_readNumber 21 = .ok (.bipush 48, 2) := by decide +kernel
theorem dX11_readNumber_23 : decode cX11_readNumber 23 = .ok (.if_icmp .ne 8, 3) := by decide +kernel
theorem dX11_readNumber_26 : decode cX11_readNumber 26 = .ok (.aload_n 0, 1) := by decide +kernel
theorem dX11_readNumber_27 : decode cX11_readNumber 27 = .ok (.iconst 1, 1) := by decide +kernel
theorem dX11_readNumber_28 : decode cX11_readNumber 28 = .ok (.invokevirtual 185, 3) := by decide +kernel
theorem dX11_readNumber_31 : decode cX11_readNumber 31 = .ok (.aload_n 0, 1) := by decide +kernel
theorem dX11_readNumber_32 : decode cX11_readNumber 32 = .ok (.aload_n 0, 1) := by decide +kernel
theorem dX11_readNumber_33 : decode cX11_readNumber 33 = .ok (.getfield 173, 3) := by decide +kernel
theorem dX11_readNumber_36 : decode cX11_readNumber 36 = .ok (.invokevirtual 179, 3) := by decide +kernel
theorem dX11_readNumber_39 : decode cX11_readNumber 39 = .ok (.bipush 48, 2) := by decide +kernel
theorem dX11_readNumber_41 : decode cX11_readNumber 41 = .ok (.isub, 1) := by decide +kernel
theorem dX11_readNumber_42 : decode cX11_readNumber 42 = .ok (.istore_n 1, 1) := by decide +kernel
theorem dX11_readNumber_43 : decode cX11_readNumber 43 = .ok (.aload_n 0, 1) := by decide +kernel
theorem dX11_readNumber_44 : decode cX11_readNumber 44 = .ok (.dup, 1) := by decide +kernel
theorem dX11_readNumber_45 : decode cX11_readNumber 45 = .ok (.getfield 173, 3) := by decide +kernel
theorem dX11_readNumber_48 : decode cX11_readNumber 48 = .ok (.iconst 1, 1) := by decide +kernel
theorem dX11_readNumber_49 : decode cX11_readNumber 49 = .ok (.iadd, 1) := by decide +kernel
theorem dX11_readNumber_50 : decode cX11_readNumber 50 = .ok (.putfield 173, 3) := by decide +kernel
theorem dX11_readNumber_53 : decode cX11_readNumber 53 = .ok (.aload_n 0, 1) := by decide +kernel
theorem dX11_readNumber_54 : decode cX11_readNumber 54 = .ok (.aload_n 0, 1) := by decide +kernel
theorem dX11_readNumber_55 : decode cX11_readNumber 55 = .ok (.getfield 173, 3) := by decide +kernel
theorem dX11_readNumber_58 : decode cX11_readNumber 58 = .ok (.invokevirtual 182, 3) := by decide +kernel
theorem dX11_readNumber_61 : decode cX11_readNumber 61 = .ok (.ifCond .eq 30, 3) := by decide +kernel
theorem dX11_readNumber_64 : decode cX11_readNumber 64 = .ok (.bipush 10, 2) := by decide +kernel
theorem dX11_readNumber_66 : decode cX11_readNumber 66 = .ok (.iload_n 1, 1) := by decide +kernel
theorem dX11_readNumber_67 : decode cX11_readNumber 67 = .ok (.imul, 1) := by decide +kernel
theorem dX11_readNumber_68 : decode cX11_readNumber 68 = .ok (.aload_n 0, 1) := by decide +kernel
theorem dX11_readNumber_69 : decode cX11_readNumber 69 = .ok (.aload_n 0, 1) := by decide +kernel
theorem dX11_readNumber_70 : decode cX11_readNumber 70 = .ok (.getfield 173, 3) := by decide +kernel
theorem dX11_readNumber_73 : decode cX11_readNumber 73 = .ok (.invokevirtual 179, 3) := by decide +kernel
theorem dX11_readNumber_76 : decode cX11_readNumber 76 = .ok (.iadd, 1) := by decide +kernel
theorem dX11_readNumber_77 : decode cX11_readNumber 77 = .ok (.bipush 48, 2) := by decide +kernel
theorem dX11_readNumber_79 : decode cX11_readNumber 79 = .ok (.isub, 1) := by decide +kernel
theorem dX11_readNumber_80 : decode cX11_readNumber 80 = .ok (.istore_n 1, 1) := by decide +kernel
theorem dX11_readNumber_81 : decode cX11_readNumber 81 = .ok (.aload_n 0, 1) := by decide +kernel
theorem dX11_readNumber_82 : decode cX11_readNumber 82 = .ok (.dup, 1) := by decide +kernel
theorem dX11_readNumber_83 : decode cX11_readNumber 83 = .ok (.getfield 173, 3) := by decide +kernel
theorem dX11_readNumber_86 : decode cX11_readNumber 86 = .ok (.iconst 1, 1) := by decide +kernel
theorem dX11_readNumber_87 : decode cX11_readNumber 87 = .ok (.iadd, 1) := by decide +kernel
theorem dX11_readNumber_88 : decode cX11_readNumber 88 = .ok (.putfield 173, 3) := by decide +kernel
theorem dX11_readNumber_91 : decode cX11_readNumber 91 = .ok (.iload_n 1, 1) := by decide +kernel
theorem dX11_readNumber_92 : decode cX11_readNumber 92 = .ok (.ireturn, 1) := by decide +kernel
theorem dX11_readLetters_0 : decode cX11_readLetters 0 = .ok (.iconst 0, 1) := by decide +kernel
theorem dX11_readLetters_1 : decode cX11_readLetters 1 = .ok (.istore_n 2, 1) := by decide +kernel
theorem dX11_readLetters_2 : decode cX11_readLetters 2 = .ok (.aload_n 0, 1) := by decide +kernel
theorem dX11_readLetters_3 : decode cX11_readLetters 3 = .ok (.getfield 170, 3) := by decide +kernel
theorem dX11_readLetters_6 : decode cX11_readLetters 6 = .ok (.ifCond .ne 94, 3) := by decide +kernel
theorem dX11_readLetters_9 : decode cX11_readLetters 9 = .ok (.aload_n 0, 1) := by decide +kernel
theorem dX11_readLetters_10 : decode cX11_readLetters 10 = .ok (.aload_n 0, 1) := by decide +kernel
theorem dX11_readLetters_11 : decode cX11_readLetters 11 = .ok (.getfield 173, 3) := by decide +kernel
theorem dX11_readLetters_14 : decode cX11_readLetters 14 = .ok (.invokevirtual 179, 3) := by decide +kernel
theorem dX11_readLetters_17 : decode cX11_readLetters 17 = .ok (.bipush 120, 2) := by decide +kernel
theorem dX11_readLetters_19 : decode cX11_readLetters 19 = .ok (.bipush 122, 2) := by decide +kernel
theorem dX11_readLetters_21 : decode cX11_readLetters 21 = .ok (.invokestatic 48, 3) := by decide +kernel
theorem dX11_readLetters_24 : decode cX11_readLetters 24 = .ok (.ifCond .eq 76, 3) := by decide +kernel
theorem dX11_readLetters_27 : decode cX11_readLetters 27 = .ok (.aload_n 0, 1) := by decide +kernel
theorem dX11_readLetters_28 : decode cX11_readLetters 28 = .ok (.aload_n 0, 1) := by decide +kernel
theorem dX11_readLetters_29 : decode cX11_readLetters 29 = .ok (.getfield 173, 3) := by decide +kernel
theorem dX11_readLetters_32 : decode cX11_readLetters 32 = .ok (.invokevirtual 179, 3) := by decide +kernel
theorem dX11_readLetters_35 : decode cX11_readLetters 35 = .ok (.bipush 120, 2) := by decide +kernel
theorem dX11_readLetters_37 : decode cX11_readLetters 37 = .ok (.isub, 1) := by decide +kernel
theorem dX11_readLetters_38 : decode cX11_readLetters 38 = .ok (.istore_n 3, 1) := by decide +kernel
theorem dX11_readLetters_39 : decode cX11_readLetters 39 = .ok (.aload_n 0, 1) := by decide +kernel
theorem dX11_readLetters_40 : decode cX11_readLetters 40 = .ok (.iload_n 3, 1) := by decide +kernel
theorem dX11_readLetters_41 : decode cX11_readLetters 41 = .ok (.invokevirtual 87, 3) := by decide +kernel
theorem dX11_readLetters_44 : decode cX11_readLetters 44 = .ok (.ifCond .ne 11, 3) := by decide +kernel
theorem dX11_readLetters_47 : decode cX11_readLetters 47 = .ok (.aload_n 0, 1) := by decide +kernel
theorem dX11_readLetters_48 : decode cX11_readLetters 48 = .ok (.iconst 2, 1) := by decide +kernel
theorem dX11_readLetters_49 : decode cX11_readLetters 49 = .ok (.invokevirtual 185, 3) := by decide +kernel
theorem dX11_readLetters_52 : decode cX11_readLetters 52 = .ok (.goto 45, 3) := by decide +kernel
theorem dX11_readLetters_55 : decode cX11_readLetters 55 = .ok (.iload_n 2, 1) := by decide +kernel
theorem dX11_readLetters_56 : decode cX11_readLetters 56 = .ok (.iconst 4, 1) := by decide +kernel
theorem dX11_readLetters_57 : decode cX11_readLetters 57 = .ok (.if_icmp .ne 11, 3) := by decide +kernel
theorem dX11_readLetters_60 : decode cX11_readLetters 60 = .ok (.aload_n 0, 1) := by decide +kernel
theorem dX11_readLetters_61 : decode cX11_readLetters 61 = .ok (.iconst 3, 1) := by decide +kernel
theorem dX11_readLetters_62 : decode cX11_readLetters 62 = .ok (.invokevirtual 185, 3) := by decide +kernel
theorem dX11_readLetters_65 : decode cX11_readLetters 65 = .ok (.goto 32, 3) := by decide +kernel
theorem dX11_readLetters_68 : decode cX11_readLetters 68 = .ok (.aload_n 0, 1) := by decide +kernel
theorem dX11_readLetters_69 : decode cX11_readLetters 69 = .ok (.getfield 29, 3) := by decide +kernel
theorem dX11_readLetters_72 : decode cX11_readLetters 72 = .ok (.iconst 4, 1) := by decide +kernel
theorem dX11_readLetters_73 : decode cX11_readLetters 73 = .ok (.iload_n 1, 1) := by decide +kernel
theorem dX11_readLetters_74 : decode cX11_readLetters 74 = .ok (.imul, 1) := by decide +kernel
theorem dX11_readLetters_75 : decode cX11_readLetters 75 = .ok (.iconst 1, 1) := by decide +kernel
theorem dX11_readLetters_76 : decode cX11_readLetters 76 = .ok (.iadd, 1) := by decide +kernel
theorem dX11_readLetters_77 : decode cX11_readLetters 77 = .ok (.iload_n 3, 1) := by decide +kernel
theorem dX11_readLetters_78 : decode cX11_readLetters 78 = .ok (.iadd, 1) := by decide +kernel
theorem dX11_readLetters_79 : decode cX11_readLetters 79 = .ok (.dup2, 1) := by decide +kernel
theorem dX11_readLetters_80 : decode cX11_readLetters 80 = .ok (.iaload, 1) := by decide +kernel
theorem dX11_readLetters_81 : decode cX11_readLetters 81 = .ok (.iconst 1, 1) := by decide +kernel
theorem dX11_readLetters_82 : decode cX11_readLetters 82 = .ok (.iadd, 1) := by decide +kernel
theorem dX11_readLetters_83 : decode cX11_readLetters 83 = .ok (.iastore, 1) := by decide +kernel
theorem dX11_readLetters_84 : decode cX11_readLetters 84 = .ok (.iinc 2 1, 3) := by decide +kernel
theorem dX11_readLetters_87 : decode cX11_readLetters 87 = .ok (.aload_n 0, 1) := by decide +kernel
theorem dX11_readLetters_88 : decode cX11_readLetters 88 = .ok (.dup, 1) := by decide +kernel
theorem dX11_readLetters_89 : decode cX11_readLetters 89 = .ok (.getfield 173, 3) := by decide +kernel
theorem dX11_readLetters_92 : decode cX11_readLetters 92 = .ok (.iconst 1, 1) := by decide +kernel
theorem dX11_readLetters_93 : decode cX11_readLetters 93 = .ok (.iadd, 1) := by decide +kernel
theorem dX11_readLetters_94 : decode cX11_readLetters 94 = .ok (.putfield 173, 3) := by decide +kernel
theorem dX11_readLetters_97 : decode cX11_readLetters 97 = .ok (.goto (-95), 3) := by decide +kernel
theorem dX11_readLetters_100 : decode cX11_readLetters 100 = .ok (.return_, 1) := by decide +kernel
theorem dX11_readTerm_0 : decode cX11_readTerm 0 = .ok (.aload_n 0, 1) := by decide +kernel
theorem dX11_readTerm_1 : decode cX11_readTerm 1 = .ok (.getfield 188, 3) := by decide +kernel
theorem dX11_readTerm_4 : decode cX11_readTerm 4 = .ok (.istore_n 2, 1) := by decide +kernel
theorem dX11_readTerm_5 : decode cX11_readTerm 5 = .ok (.iconst 1, 1) := by decide +kernel
theorem dX11_readTerm_6 : decode cX11_readTerm 6 = .ok (.istore_n 3, 1) := by decide +kernel
theorem dX11_readTerm_7 : decode cX11_readTerm 7 = .ok (.iload_n 3, 1) := by decide +kernel
theorem dX11_readTerm_8 : decode cX11_readTerm 8 = .ok (.iconst 4, 1) := by decide +kernel
theorem dX11_readTerm_9 : decode cX11_readTerm 9 = .ok (.if_icmp .ge 20, 3) := by decide +kernel
theorem dX11_readTerm_12 : decode cX11_readTerm 12 = .ok (.aload_n 0, 1) := by decide +kernel
theorem dX11_readTerm_13 : decode cX11_readTerm 13 = .ok (.getfield 29, 3) := by decide +kernel
theorem dX11_readTerm_16 : decode cX11_readTerm 16 = .ok (.iconst 4, 1) := by decide +kernel
theorem dX11_readTerm_17 : decode cX11_readTerm 17 = .ok (.iload_n 2, 1) := by decide +kernel
theorem dX11_readTerm_18 : decode cX11_readTerm 18 = .ok (.imul, 1) := by decide +kernel
theorem dX11_readTerm_19 : decode cX11_readTerm 19 = .ok (.iload_n 3, 1) := by decide +kernel
theorem dX11_readTerm_20 : decode cX11_readTerm 20 = .ok (.iadd, 1) := by decide +kernel
theorem dX11_readTerm_21 : decode cX11_readTerm 21 = .ok (.iconst 0, 1) := by decide +kernel
theorem dX11_readTerm_22 : decode cX11_readTerm 22 = .ok (.iastore, 1) := by decide +kernel
theorem dX11_readTerm_23 : decode cX11_readTerm 23 = .ok (.iinc 3 1, 3) := by decide +kernel
theorem dX11_readTerm_26 : decode cX11_readTerm 26 = .ok (.goto (-19), 3) := by decide +kernel
theorem dX11_readTerm_29 : decode cX11_readTerm 29 = .ok (.aload_n 0, 1) := by decide +kernel
theorem dX11_readTerm_30 : decode cX11_readTerm 30 = .ok (.aload_n 0, 1) := by decide +kernel
theorem dX11_readTerm_31 : decode cX11_readTerm 31 = .ok (.getfield 173, 3) := by decide +kernel
theorem dX11_readTerm_34 : decode cX11_readTerm 34 = .ok (.invokevirtual 182, 3) := by decide +kernel
theorem dX11_readTerm_37 : decode cX11_readTerm 37 = .ok (.ifCond .ne 26, 3) := by decide +kernel
theorem dX11_readTerm_40 : decode cX11_readTerm 40 = .ok (.aload_n 0, 1) := by decide +kernel
theorem dX11_readTerm_41 : decode cX11_readTerm 41 = .ok (.aload_n 0, 1) := by decide +kernel
theorem dX11_readTerm_42 : decode cX11_readTerm 42 = .ok (.getfield 173, 3) := by decide +kernel
theorem dX11_readTerm_45 : decode cX11_readTerm 45 = .ok (.invokevirtual 179, 3) := by decide +kernel
theorem dX11_readTerm_48 : decode cX11_readTerm 48 = .ok (.bipush 120, 2) := by decide +kernel
theorem dX11_readTerm_50 : decode cX11_readTerm 50 = .ok (.bipush 122, 2) := by decide +kernel
theorem dX11_readTerm_52 : decode cX11_readTerm 52 = .ok (.invokestatic 48, 3) := by decide +kernel
theorem dX11_readTerm_55 : decode cX11_readTerm 55 = .ok (.ifCond .ne 8, 3) := by decide +kernel
theorem dX11_readTerm_58 : decode cX11_readTerm 58 = .ok (.aload_n 0, 1) := by decide +kernel
theorem dX11_readTerm_59 : decode cX11_readTerm 59 = .ok (.iconst 1, 1) := by decide +kernel
theorem dX11_readTerm_60 : decode cX11_readTerm 60 = .ok (.invokevirtual 185, 3) := by decide +kernel
theorem dX11_readTerm_63 : decode cX11_readTerm 63 = .ok (.aload_n 0, 1) := by decide +kernel
theorem dX11_readTerm_64 : decode cX11_readTerm 64 = .ok (.invokevirtual 191, 3) := by decide +kernel
theorem dX11_readTerm_67 : decode cX11_readTerm 67 = .ok (.istore_n 3, 1) := by decide +kernel
theorem dX11_readTerm_68 : decode cX11_readTerm 68 = .ok (.aload_n 0, 1) := by decide +kernel
theorem dX11_readTerm_69 : decode cX11_readTerm 69 = .ok (.iload_n 2, 1) := by decide +kernel
theorem dX11_readTerm_70 : decode cX11_readTerm 70 = .ok (.invokevirtual 194, 3) := by decide +kernel
theorem dX11_readTerm_73 : decode cX11_readTerm 73 = .ok (.aload_n 0, 1) := by decide +kernel
theorem dX11_readTerm_74 : decode cX11_readTerm 74 = .ok (.getfield 29, 3) := by decide +kernel
theorem dX11_readTerm_77 : decode cX11_readTerm 77 = .ok (.iconst 4, 1) := by decide +kernel
theorem dX11_readTerm_78 : decode cX11_readTerm 78 = .ok (.iload_n 2, 1) := by decide +kernel
theorem dX11_readTerm_79 : decode cX11_readTerm 79 = .ok (.imul, 1) := by decide +kernel
theorem dX11_readTerm_80 : decode cX11_readTerm 80 = .ok (.iload_n 1, 1) := by decide +kernel
theorem dX11_readTerm_81 : decode cX11_readTerm 81 = .ok (.ifCond .eq 8, 3) := by decide +kernel
theorem dX11_readTerm_84 : decode cX11_readTerm 84 = .ok (.iload_n 3, 1) := by decide +kernel
theorem dX11_readTerm_85 : decode cX11_readTerm 85 = .ok (.ineg, 1) := by decide +kernel
theorem dX11_readTerm_86 : decode cX11_readTerm 86 = .ok (.goto 4, 3) := by decide +kernel
theorem dX11_readTerm_89 : decode cX11_readTerm 89 = .ok (.iload_n 3, 1) := by decide +kernel
theorem dX11_readTerm_90 : decode cX11_readTerm 90 = .ok (.iastore, 1) := by decide +kernel
theorem dX11_readTerm_91 : decode cX11_readTerm 91 = .ok (.aload_n 0, 1) := by decide +kernel
theorem dX11_readTerm_92 : decode cX11_readTerm 92 = .ok (.dup, 1) := by decide +kernel
theorem dX11_readTerm_93 : decode cX11_readTerm 93 = .ok (.getfield 188, 3) := by decide +kernel
theorem dX11_readTerm_96 : decode cX11_readTerm 96 = .ok (.iconst 1, 1) := by decide +kernel
theorem dX11_readTerm_97 : decode cX11_readTerm 97 = .ok (.iadd, 1) := by decide +kernel
theorem dX11_readTerm_98 : decode cX11_readTerm 98 = .ok (.putfield 188, 3) := by decide +kernel
theorem dX11_readTerm_101 : decode cX11_readTerm 101 = .ok (.return_, 1) := by decide +kernel
theorem dX11_readText_0 : decode cX11_readText 0 = .ok (.aload_n 0, 1) := by decide +kernel
theorem dX11_readText_1 : decode cX11_readText 1 = .ok (.iconst 0, 1) := by decide +kernel
theorem dX11_readText_2 : decode cX11_readText 2 = .ok (.putfield 170, 3) := by decide +kernel
theorem dX11_readText_5 : decode cX11_readText 5 = .ok (.aload_n 0, 1) := by decide +kernel
theorem dX11_readText_6 : decode cX11_readText 6 = .ok (.iconst 0, 1) := by decide +kernel
theorem dX11_readText_7 : decode cX11_readText 7 = .ok (.putfield 188, 3) := by decide +kernel
theorem dX11_readText_10 : decode cX11_readText 10 = .ok (.aload_n 0, 1) := by decide +kernel
theorem dX11_readText_11 : decode cX11_readText 11 = .ok (.iconst 0, 1) := by decide +kernel
theorem dX11_readText_12 : decode cX11_readText 12 = .ok (.putfield 173, 3) := by decide +kernel
theorem dX11_readText_15 : decode cX11_readText 15 = .ok (.aload_n 0, 1) := by decide +kernel
theorem dX11_readText_16 : decode cX11_readText 16 = .ok (.iconst 0, 1) := by decide +kernel
theorem dX11_readText_17 : decode cX11_readText 17 = .ok (.invokevirtual 179, 3) := by decide +kernel
theorem dX11_readText_20 : decode cX11_readText 20 = .ok (.bipush 45, 2) := by decide +kernel
theorem dX11_readText_22 : decode cX11_readText 22 = .ok (.if_icmp .ne 7, 3) := by decide +kernel
theorem dX11_readText_25 : decode cX11_readText 25 = .ok (.iconst 1, 1) := by decide +kernel
theorem dX11_readText_26 : decode cX11_readText 26 = .ok (.goto 4, 3) := by decide +kernel
theorem dX11_readText_29 : decode cX11_readText 29 = .ok (.iconst 0, 1) := by decide +kernel
theorem dX11_readText_30 : decode cX11_readText 30 = .ok (.istore_n 1, 1) := by decide +kernel
theorem dX11_readText_31 : decode cX11_readText 31 = .ok (.aload_n 0, 1) := by decide +kernel
theorem dX11_readText_32 : decode cX11_readText 32 = .ok (.dup, 1) := by decide +kernel
theorem dX11_readText_33 : decode cX11_readText 33 = .ok (.getfield 173, 3) := by decide +kernel
theorem dX11_readText_36 : decode cX11_readText 36 = .ok (.iload_n 1, 1) := by decide +kernel
theorem dX11_readText_37 : decode cX11_readText 37 = .ok (.ifCond .eq 7, 3) := by decide +kernel
theorem dX11_readText_40 : decode cX11_readText 40 = .ok (.iconst 1, 1) := by decide +kernel
theorem dX11_readText_41 : decode cX11_readText 41 = .ok (.goto 4, 3) := by decide +kernel
theorem dX11_readText_44 : decode cX11_readText 44 = .ok (.iconst 0, 1) := by decide +kernel
theorem dX11_readText_45 : decode cX11_readText 45 = .ok (.iadd, 1) := by decide +kernel
theorem dX11_readText_46 : decode cX11_readText 46 = .ok (.putfield 173, 3) := by decide +kernel
theorem dX11_readText_49 : decode cX11_readText 49 = .ok (.aload_n 0, 1) := by decide +kernel
theorem dX11_readText_50 : decode cX11_readText 50 = .ok (.iload_n 1, 1) := by decide +kernel
theorem dX11_readText_51 : decode cX11_readText 51 = .ok (.invokevirtual 197, 3) := by decide +kernel
theorem dX11_readText_54 : decode cX11_readText 54 = .ok (.aload_n 0, 1) := by decide +kernel
theorem dX11_readText_55 : decode cX11_readText 55 = .ok (.getfield 170, 3) := by decide +kernel
theorem dX11_readText_58 : decode cX11_readText 58 = .ok (.ifCond .ne 88, 3) := by decide +kernel
theorem dX11_readText_61 : decode cX11_readText 61 = .ok (.aload_n 0, 1) := by decide +kernel
theorem dX11_readText_62 : decode cX11_readText 62 = .ok (.getfield 173, 3) := by decide +kernel
theorem dX11_readText_65 : decode cX11_readText 65 = .ok (.aload_n 0, 1) := by decide +kernel
theorem dX11_readText_66 : decode cX11_readText 66 = .ok (.getfield 152, 3) := by decide +kernel
theorem dX11_readText_69 : decode cX11_readText 69 = .ok (.if_icmp .ge 77, 3) := by decide +kernel
theorem dX11_readText_72 : decode cX11_readText 72 = .ok (.aload_n 0, 1) := by decide +kernel
theorem dX11_readText_73 : decode cX11_readText 73 = .ok (.aload_n 0, 1) := by decide +kernel
theorem dX11_readText_74 : decode cX11_readText 74 = .ok (.getfield 173, 3) := by decide +kernel
theorem dX11_readText_77 : decode cX11_readText 77 = .ok (.invokevirtual 179, 3) := by decide +kernel
theorem dX11_readText_80 : decode cX11_readText 80 = .ok (.istore_n 2, 1) := by decide +kernel
theorem dX11_readText_81 : decode cX11_readText 81 = .ok (.iload_n 2, 1) := by decide +kernel
theorem dX11_readText_82 : decode cX11_readText 82 = .ok (.bipush 43, 2) := by decide +kernel
theorem dX11_readText_84 : decode cX11_readText 84 = .ok (.if_icmp .eq 17, 3) := by decide +kernel
theorem dX11_readText_87 : decode cX11_readText 87 = .ok (.iload_n 2, 1) := by decide +kernel
theorem dX11_readText_88 : decode cX11_readText 88 = .ok (.bipush 45, 2) := by decide +kernel
theorem dX11_readText_90 : decode cX11_readText 90 = .ok (.if_icmp .eq 11, 3) := by decide +kernel
theorem dX11_readText_93 : decode cX11_readText 93 = .ok (.aload_n 0, 1) := by decide +kernel
theorem dX11_readText_94 : decode cX11_readText 94 = .ok (.iconst 1, 1) := by decide +kernel
theorem dX11_readText_95 : decode cX11_readText 95 = .ok (.invokevirtual 185, 3) := by decide +kernel
theorem dX11_readText_98 : decode cX11_readText 98 = .ok (.goto 45, 3) := by decide +kernel
theorem dX11_readText_101 : decode cX11_readText 101 = .ok (.aload_n 0, 1) := by decide +kernel
theorem dX11_readText_102 : decode cX11_readText 102 = .ok (.getfield 188, 3) := by decide +kernel
theorem dX11_readText_105 : decode cX11_readText 105 = .ok (.bipush 10, 2) := by decide +kernel
theorem dX11_readText_107 : decode cX11_readText 107 = .ok (.if_icmp .ne 11, 3) := by decide +kernel
theorem dX11_readText_110 : decode cX11_readText 110 = .ok (.aload_n 0, 1) := by decide +kernel
theorem dX11_readText_111 : decode cX11_readText 111 = .ok (.iconst 4, 1) := by decide +kernel
theorem dX11_readText_112 : decode cX11_readText 112 = .ok (.invokevirtual 185, 3) := by decide +kernel
theorem dX11_readText_115 : decode cX11_readText 115 = .ok (.goto 28, 3) := by decide +kernel
theorem dX11_readText_118 : decode cX11_readText 118 = .ok (.aload_n 0, 1) := by decide +kernel
theorem dX11_readText_119 : decode cX11_readText 119 = .ok (.dup, 1) := by decide +kernel
theorem dX11_readText_120 : decode cX11_readText 120 = .ok (.getfield 173, 3) := by decide +kernel
theorem dX11_readText_123 : decode cX11_readText 123 = .ok (.iconst 1, 1) := by decide +kernel
theorem dX11_readText_124 : decode cX11_readText 124 = .ok (.iadd, 1) := by decide +kernel
theorem dX11_readText_125 : decode cX11_readText 125 = .ok (.putfield 173, 3) := by decide +kernel
theorem dX11_readText_128 : decode cX11_readText 128 = .ok (.aload_n 0, 1) := by decide +kernel
theorem dX11_readText_129 : decode cX11_readText 129 = .ok (.iload_n 2, 1) := by decide +kernel
theorem dX11_readText_130 : decode cX11_readText 130 = .ok (.bipush 45, 2) := by decide +kernel
theorem dX11_readText_132 : decode cX11_readText 132 = .ok (.if_icmp .ne 7, 3) := by decide +kernel
theorem dX11_readText_135 : decode cX11_readText 135 = .ok (.iconst 1, 1) := by decide +kernel
theorem dX11_readText_136 : decode cX11_readText 136 = .ok (.goto 4, 3) := by decide +kernel
theorem dX11_readText_139 : decode cX11_readText 139 = .ok (.iconst 0, 1) := by decide +kernel
theorem dX11_readText_140 : decode cX11_readText 140 = .ok (.invokevirtual 197, 3) := by decide +kernel
theorem dX11_readText_143 : decode cX11_readText 143 = .ok (.goto (-89), 3) := by decide +kernel
theorem dX11_readText_146 : decode cX11_readText 146 = .ok (.return_, 1) := by decide +kernel
theorem dX11_fault_0 : decode cX11_fault 0 = .ok (.iload_n 1, 1) := by decide +kernel
theorem dX11_fault_1 : decode cX11_fault 1 = .ok (.iconst 0, 1) := by decide +kernel
theorem dX11_fault_2 : decode cX11_fault 2 = .ok (.iconst 1, 1) := by decide +kernel
theorem dX11_fault_3 : decode cX11_fault 3 = .ok (.invokestatic 48, 3) := by decide +kernel
theorem dX11_fault_6 : decode cX11_fault 6 = .ok (.ifCond .ne 6, 3) := by decide +kernel
theorem dX11_fault_9 : decode cX11_fault 9 = .ok (.ldc 70, 2) := by decide +kernel
theorem dX11_fault_11 : decode cX11_fault 11 = .ok (.ireturn, 1) := by decide +kernel
theorem dX11_fault_12 : decode cX11_fault 12 = .ok (.aload_n 0, 1) := by decide +kernel
theorem dX11_fault_13 : decode cX11_fault 13 = .ok (.invokevirtual 201, 3) := by decide +kernel
theorem dX11_fault_16 : decode cX11_fault 16 = .ok (.aload_n 0, 1) := by decide +kernel
theorem dX11_fault_17 : decode cX11_fault 17 = .ok (.getfield 170, 3) := by decide +kernel
theorem dX11_fault_20 : decode cX11_fault 20 = .ok (.ifCond .ne 8, 3) := by decide +kernel
theorem dX11_fault_23 : decode cX11_fault 23 = .ok (.ldc 151, 2) := by decide +kernel
theorem dX11_fault_25 : decode cX11_fault 25 = .ok (.goto 18, 3) := by decide +kernel
theorem dX11_fault_28 : decode cX11_fault 28 = .ok (.iload_n 1, 1) := by decide +kernel
theorem dX11_fault_29 : decode cX11_fault 29 = .ok (.ifCond .ne 10, 3) := by decide +kernel
theorem dX11_fault_32 : decode cX11_fault 32 = .ok (.aload_n 0, 1) := by decide +kernel
theorem dX11_fault_33 : decode cX11_fault 33 = .ok (.getfield 176, 3) := by decide +kernel
theorem dX11_fault_36 : decode cX11_fault 36 = .ok (.goto 7, 3) := by decide +kernel
theorem dX11_fault_39 : decode cX11_fault 39 = .ok (.aload_n 0, 1) := by decide +kernel
theorem dX11_fault_40 : decode cX11_fault 40 = .ok (.getfield 170, 3) := by decide +kernel
theorem dX11_fault_43 : decode cX11_fault 43 = .ok (.ireturn, 1) := by decide +kernel
theorem dX11_read_0 : decode cX11_read 0 = .ok (.aload_n 0, 1) := by decide +kernel
theorem dX11_read_1 : decode cX11_read 1 = .ok (.invokevirtual 201, 3) := by decide +kernel
theorem dX11_read_4 : decode cX11_read 4 = .ok (.aload_n 0, 1) := by decide +kernel
theorem dX11_read_5 : decode cX11_read 5 = .ok (.getfield 170, 3) := by decide +kernel
theorem dX11_read_8 : decode cX11_read 8 = .ok (.ifCond .eq 6, 3) := by decide +kernel
theorem dX11_read_11 : decode cX11_read 11 = .ok (.ldc 40, 2) := by decide +kernel
theorem dX11_read_13 : decode cX11_read 13 = .ok (.ireturn, 1) := by decide +kernel
theorem dX11_read_14 : decode cX11_read 14 = .ok (.aload_n 0, 1) := by decide +kernel
theorem dX11_read_15 : decode cX11_read 15 = .ok (.invokevirtual 45, 3) := by decide +kernel
theorem dX11_read_18 : decode cX11_read 18 = .ok (.aload_n 0, 1) := by decide +kernel
theorem dX11_read_19 : decode cX11_read 19 = .ok (.getfield 7, 3) := by decide +kernel
theorem dX11_read_22 : decode cX11_read 22 = .ok (.iconst 1, 1) := by decide +kernel
theorem dX11_read_23 : decode cX11_read 23 = .ok (.aload_n 0, 1) := by decide +kernel
theorem dX11_read_24 : decode cX11_read 24 = .ok (.getfield 188, 3) := by decide +kernel
theorem dX11_read_27 : decode cX11_read 27 = .ok (.iastore, 1) := by decide +kernel
theorem dX11_read_28 : decode cX11_read 28 = .ok (.iconst 0, 1) := by decide +kernel
theorem dX11_read_29 : decode cX11_read 29 = .ok (.istore_n 1, 1) := by decide +kernel
theorem dX11_read_30 : decode cX11_read 30 = .ok (.iload_n 1, 1) := by decide +kernel
theorem dX11_read_31 : decode cX11_read 31 = .ok (.aload_n 0, 1) := by decide +kernel
theorem dX11_read_32 : decode cX11_read 32 = .ok (.getfield 188, 3) := by decide +kernel
theorem dX11_read_35 : decode cX11_read 35 = .ok (.if_icmp .ge 52, 3) := by decide +kernel
theorem dX11_read_38 : decode cX11_read 38 = .ok (.aload_n 0, 1) := by decide +kernel
theorem dX11_read_39 : decode cX11_read 39 = .ok (.iload_n 1, 1) := by decide +kernel
theorem dX11_read_40 : decode cX11_read 40 = .ok (.aload_n 0, 1) := by decide +kernel
theorem dX11_read_41 : decode cX11_read 41 = .ok (.getfield 29, 3) := by decide +kernel
theorem dX11_read_44 : decode cX11_read 44 = .ok (.iconst 4, 1) := by decide +kernel
theorem dX11_read_45 : decode cX11_read 45 = .ok (.iload_n 1, 1) := by decide +kernel
theorem dX11_read_46 : decode cX11_read 46 = .ok (.imul, 1) := by decide +kernel
theorem dX11_read_47 : decode cX11_read 47 = .ok (.iaload, 1) := by decide +kernel
theorem dX11_read_48 : decode cX11_read 48 = .ok (.aload_n 0, 1) := by decide +kernel
theorem dX11_read_49 : decode cX11_read 49 = .ok (.getfield 29, 3) := by decide +kernel
theorem dX11_read_52 : decode cX11_read 52 = .ok (.iconst 4, 1) := by decide +kernel
theorem dX11_read_53 : decode cX11_read 53 = .ok (.iload_n 1, 1) := by decide +kernel
theorem dX11_read_54 : decode cX11_read 54 = .ok (.imul, 1) := by decide +kernel
theorem dX11_read_55 : decode cX11_read 55 = .ok (.iconst 1, 1) := by decide +kernel
theorem dX11_read_56 : decode cX11_read 56 = .ok (.iadd, 1) := by decide +kernel
theorem dX11_read_57 : decode cX11_read 57 = .ok (.iaload, 1) := by decide +kernel
theorem dX11_read_58 : decode cX11_read 58 = .ok (.aload_n 0, 1) := by decide +kernel
theorem dX11_read_59 : decode cX11_read 59 = .ok (.getfield 29, 3) := by decide +kernel
theorem dX11_read_62 : decode cX11_read 62 = .ok (.iconst 4, 1) := by decide +kernel
theorem dX11_read_63 : decode cX11_read 63 = .ok (.iload_n 1, 1) := by decide +kernel
theorem dX11_read_64 : decode cX11_read 64 = .ok (.imul, 1) := by decide +kernel
theorem dX11_read_65 : decode cX11_read 65 = .ok (.iconst 2, 1) := by decide +kernel
theorem dX11_read_66 : decode cX11_read 66 = .ok (.iadd, 1) := by decide +kernel
theorem dX11_read_67 : decode cX11_read 67 = .ok (.iaload, 1) := by decide +kernel
theorem dX11_read_68 : decode cX11_read 68 = .ok (.aload_n 0, 1) := by decide +kernel
theorem dX11_read_69 : decode cX11_read 69 = .ok (.getfield 29, 3) := by decide +kernel
theorem dX11_read_72 : decode cX11_read 72 = .ok (.iconst 4, 1) := by decide +kernel
theorem dX11_read_73 : decode cX11_read 73 = .ok (.iload_n 1, 1) := by decide +kernel
theorem dX11_read_74 : decode cX11_read 74 = .ok (.imul, 1) := by decide +kernel
theorem dX11_read_75 : decode cX11_read 75 = .ok (.iconst 3, 1) := by decide +kernel
theorem dX11_read_76 : decode cX11_read 76 = .ok (.iadd, 1) := by decide +kernel
theorem dX11_read_77 : decode cX11_read 77 = .ok (.iaload, 1) := by decide +kernel
theorem dX11_read_78 : decode cX11_read 78 = .ok (.invokevirtual 76, 3) := by decide +kernel
theorem dX11_read_81 : decode cX11_read 81 = .ok (.iinc 1 1, 3) := by decide +kernel
theorem dX11_read_84 : decode cX11_read 84 = .ok (.goto (-54), 3) := by decide +kernel
theorem dX11_read_87 : decode cX11_read 87 = .ok (.aload_n 0, 1) := by decide +kernel
theorem dX11_read_88 : decode cX11_read 88 = .ok (.getfield 188, 3) := by decide +kernel
theorem dX11_read_91 : decode cX11_read 91 = .ok (.ireturn, 1) := by decide +kernel
theorem dJ9_max_7cf53_0 : decode cJ9_max_7cf53 0 = .ok (.iload_n 0, 1) := by decide +kernel
theorem dJ9_max_7cf53_1 : decode cJ9_max_7cf53 1 = .ok (.iload_n 1, 1) := by decide +kernel
theorem dJ9_max_7cf53_2 : decode cJ9_max_7cf53 2 = .ok (.if_icmp .lt 7, 3) := by decide +kernel
theorem dJ9_max_7cf53_5 : decode cJ9_max_7cf53 5 = .ok (.iload_n 0, 1) := by decide +kernel
theorem dJ9_max_7cf53_6 : decode cJ9_max_7cf53 6 = .ok (.goto 4, 3) := by decide +kernel
theorem dJ9_max_7cf53_9 : decode cJ9_max_7cf53 9 = .ok (.iload_n 1, 1) := by decide +kernel
theorem dJ9_max_7cf53_10 : decode cJ9_max_7cf53 10 = .ok (.ireturn, 1) := by decide +kernel
theorem dJ9_min_7cf53_0 : decode cJ9_min_7cf53 0 = .ok (.iload_n 0, 1) := by decide +kernel
theorem dJ9_min_7cf53_1 : decode cJ9_min_7cf53 1 = .ok (.iload_n 1, 1) := by decide +kernel
theorem dJ9_min_7cf53_2 : decode cJ9_min_7cf53 2 = .ok (.if_icmp .gt 7, 3) := by decide +kernel
theorem dJ9_min_7cf53_5 : decode cJ9_min_7cf53 5 = .ok (.iload_n 0, 1) := by decide +kernel
theorem dJ9_min_7cf53_6 : decode cJ9_min_7cf53 6 = .ok (.goto 4, 3) := by decide +kernel
theorem dJ9_min_7cf53_9 : decode cJ9_min_7cf53 9 = .ok (.iload_n 1, 1) := by decide +kernel
theorem dJ9_min_7cf53_10 : decode cJ9_min_7cf53 10 = .ok (.ireturn, 1) := by decide +kernel
theorem dL_law_0 : decode cL_law 0 = .ok (.new 7, 3) := by decide +kernel
theorem dL_law_3 : decode cL_law 3 = .ok (.dup, 1) := by decide +kernel
theorem dL_law_4 : decode cL_law 4 = .ok (.invokespecial 9, 3) := by decide +kernel
theorem dL_law_7 : decode cL_law 7 = .ok (.astore_n 1, 1) := by decide +kernel
theorem dL_law_8 : decode cL_law 8 = .ok (.new 10, 3) := by decide +kernel
theorem dL_law_11 : decode cL_law 11 = .ok (.dup, 1) := by decide +kernel
theorem dL_law_12 : decode cL_law 12 = .ok (.invokespecial 12, 3) := by decide +kernel
theorem dL_law_15 : decode cL_law 15 = .ok (.astore_n 2, 1) := by decide +kernel
theorem dL_law_16 : decode cL_law 16 = .ok (.iconst 0, 1) := by decide +kernel
theorem dL_law_17 : decode cL_law 17 = .ok (.istore_n 3, 1) := by decide +kernel
theorem dL_law_18 : decode cL_law 18 = .ok (.iload_n 3, 1) := by decide +kernel
theorem dL_law_19 : decode cL_law 19 = .ok (.aload_n 0, 1) := by decide +kernel
theorem dL_law_20 : decode cL_law 20 = .ok (.arraylength, 1) := by decide +kernel
theorem dL_law_21 : decode cL_law 21 = .ok (.iconst 5, 1) := by decide +kernel
theorem dL_law_22 : decode cL_law 22 = .ok (.isub, 1) := by decide +kernel
theorem dL_law_23 : decode cL_law 23 = .ok (.if_icmp .gt 881, 3) := by decide +kernel
theorem dL_law_26 : decode cL_law 26 = .ok (.aload_n 0, 1) := by decide +kernel
theorem dL_law_27 : decode cL_law 27 = .ok (.iload_n 3, 1) := by decide +kernel
theorem dL_law_28 : decode cL_law 28 = .ok (.iaload, 1) := by decide +kernel
theorem dL_law_29 : decode cL_law 29 = .ok (.bipush 31, 2) := by decide +kernel
theorem dL_law_31 : decode cL_law 31 = .ok (.iand, 1) := by decide +kernel
theorem dL_law_32 : decode cL_law 32 = .ok (.tableswitch 866 0 26 #[124, 147, 200, 223, 266, 309, 332, 385, 418, 431, 454, 508, 541, 574, 597, 630, 653, 686, 699, 722, 755, 768, 781, 794, 817, 830, 853], 124) := by decide +kernel
theorem dL_law_156 : decode cL_law 156 = .ok (.aload_n 1, 1) := by decide +kernel
theorem dL_law_157 : decode cL_law 157 = .ok (.aload_n 0, 1) := by decide +kernel
theorem dL_law_158 : decode cL_law 158 = .ok (.iload_n 3, 1) := by decide +kernel
theorem dL_law_159 : decode cL_law 159 = .ok (.iconst 1, 1) := by decide +kernel
theorem dL_law_160 : decode cL_law 160 = .ok (.iadd, 1) := by decide +kernel
theorem dL_law_161 : decode cL_law 161 = .ok (.iaload, 1) := by decide +kernel
theorem dL_law_162 : decode cL_law 162 = .ok (.invokevirtual 13, 3) := by decide +kernel
theorem dL_law_165 : decode cL_law 165 = .ok (.aload_n 2, 1) := by decide +kernel
theorem dL_law_166 : decode cL_law 166 = .ok (.aload_n 0, 1) := by decide +kernel
theorem dL_law_167 : decode cL_law 167 = .ok (.iload_n 3, 1) := by decide +kernel
theorem dL_law_168 : decode cL_law 168 = .ok (.iconst 1, 1) := by decide +kernel
theorem dL_law_169 : decode cL_law 169 = .ok (.iadd, 1) := by decide +kernel
theorem dL_law_170 : decode cL_law 170 = .ok (.iaload, 1) := by decide +kernel
theorem dL_law_171 : decode cL_law 171 = .ok (.invokevirtual 17, 3) := by decide +kernel
theorem dL_law_174 : decode cL_law 174 = .ok (.if_icmp .eq 724, 3) := by decide +kernel
theorem dL_law_177 : decode cL_law 177 = .ok (.iconst 0, 1) := by decide +kernel
theorem dL_law_178 : decode cL_law 178 = .ok (.ireturn, 1) := by decide +kernel
theorem dL_law_179 : decode cL_law 179 = .ok (.aload_n 1, 1) := by decide +kernel
theorem dL_law_180 : decode cL_law 180 = .ok (.aload_n 0, 1) := by decide +kernel
theorem dL_law_181 : decode cL_law 181 = .ok (.iload_n 3, 1) := by decide +kernel
theorem dL_law_182 : decode cL_law 182 = .ok (.iconst 1, 1) := by decide +kernel
theorem dL_law_183 : decode cL_law 183 = .ok (.iadd, 1) := by decide +kernel
theorem dL_law_184 : decode cL_law 184 = .ok (.iaload, 1) := by decide +kernel
theorem dL_law_185 : decode cL_law 185 = .ok (.aload_n 0, 1) := by decide +kernel
theorem dL_law_186 : decode cL_law 186 = .ok (.iload_n 3, 1) := by decide +kernel
theorem dL_law_187 : decode cL_law 187 = .ok (.iconst 2, 1) := by decide +kernel
theorem dL_law_188 : decode cL_law 188 = .ok (.iadd, 1) := by decide +kernel
theorem dL_law_189 : decode cL_law 189 = .ok (.iaload, 1) := by decide +kernel
theorem dL_law_190 : decode cL_law 190 = .ok (.aload_n 0, 1) := by decide +kernel
theorem dL_law_191 : decode cL_law 191 = .ok (.iload_n 3, 1) := by decide +kernel
theorem dL_law_192 : decode cL_law 192 = .ok (.iconst 3, 1) := by decide +kernel
theorem dL_law_193 : decode cL_law 193 = .ok (.iadd, 1) := by decide +kernel
theorem dL_law_194 : decode cL_law 194 = .ok (.iaload, 1) := by decide +kernel
theorem dL_law_195 : decode cL_law 195 = .ok (.aload_n 0, 1) := by decide +kernel
theorem dL_law_196 : decode cL_law 196 = .ok (.iload_n 3, 1) := by decide +kernel
theorem dL_law_197 : decode cL_law 197 = .ok (.iconst 4, 1) := by decide +kernel
theorem dL_law_198 : decode cL_law 198 = .ok (.iadd, 1) := by decide +kernel
theorem dL_law_199 : decode cL_law 199 = .ok (.iaload, 1) := by decide +kernel
theorem dL_law_200 : decode cL_law 200 = .ok (.invokevirtual 18, 3) := by decide +kernel
theorem dL_law_203 : decode cL_law 203 = .ok (.aload_n 2, 1) := by decide +kernel
theorem dL_law_204 : decode cL_law 204 = .ok (.aload_n 0, 1) := by decide +kernel
theorem dL_law_205 : decode cL_law 205 = .ok (.iload_n 3, 1) := by decide +kernel
theorem dL_law_206 : decode cL_law 206 = .ok (.iconst 1, 1) := by decide +kernel
theorem dL_law_207 : decode cL_law 207 = .ok (.iadd, 1) := by decide +kernel
theorem dL_law_208 : decode cL_law 208 = .ok (.iaload, 1) := by decide +kernel
theorem dL_law_209 : decode cL_law 209 = .ok (.aload_n 0, 1) := by decide +kernel
theorem dL_law_210 : decode cL_law 210 = .ok (.iload_n 3, 1) := by decide +kernel
theorem dL_law_211 : decode cL_law 211 = .ok (.iconst 2, 1) := by decide +kernel
theorem dL_law_212 : decode cL_law 212 = .ok (.iadd, 1) := by decide +kernel
theorem dL_law_213 : decode cL_law 213 = .ok (.iaload, 1) := by decide +kernel
theorem dL_law_214 : decode cL_law 214 = .ok (.aload_n 0, 1) := by decide +kernel
theorem dL_law_215 : decode cL_law 215 = .ok (.iload_n 3, 1) := by decide +kernel
theorem dL_law_216 : decode cL_law 216 = .ok (.iconst 3, 1) := by decide +kernel
theorem dL_law_217 : decode cL_law 217 = .ok (.iadd, 1) := by decide +kernel
theorem dL_law_218 : decode cL_law 218 = .ok (.iaload, 1) := by decide +kernel
theorem dL_law_219 : decode cL_law 219 = .ok (.aload_n 0, 1) := by decide +kernel
theorem dL_law_220 : decode cL_law 220 = .ok (.iload_n 3, 1) := by decide +kernel
theorem dL_law_221 : decode cL_law 221 = .ok (.iconst 4, 1) := by decide +kernel
theorem dL_law_222 : decode cL_law 222 = .ok (.iadd, 1) := by decide +kernel
theorem dL_law_223 : decode cL_law 223 = .ok (.iaload, 1) := by decide +kernel
theorem dL_law_224 : decode cL_law 224 = .ok (.invokevirtual 22, 3) := by decide +kernel
theorem dL_law_227 : decode cL_law 227 = .ok (.if_icmp .eq 671, 3) := by decide +kernel
theorem dL_law_230 : decode cL_law 230 = .ok (.iconst 0, 1) := by decide +kernel
theorem dL_law_231 : decode cL_law 231 = .ok (.ireturn, 1) := by decide +kernel
theorem dL_law_232 : decode cL_law 232 = .ok (.aload_n 1, 1) := by decide +kernel
theorem dL_law_233 : decode cL_law 233 = .ok (.aload_n 0, 1) := by decide +kernel
theorem dL_law_234 : decode cL_law 234 = .ok (.iload_n 3, 1) := by decide +kernel
theorem dL_law_235 : decode cL_law 235 = .ok (.iconst 1, 1) := by decide +kernel
theorem dL_law_236 : decode cL_law 236 = .ok (.iadd, 1) := by decide +kernel
theorem dL_law_237 : decode cL_law 237 = .ok (.iaload, 1) := by decide +kernel
theorem dL_law_238 : decode cL_law 238 = .ok (.invokevirtual 23, 3) := by decide +kernel
theorem dL_law_241 : decode cL_law 241 = .ok (.aload_n 2, 1) := by decide +kernel
theorem dL_law_242 : decode cL_law 242 = .ok (.aload_n 0, 1) := by decide +kernel
theorem dL_law_243 : decode cL_law 243 = .ok (.iload_n 3, 1) := by decide +kernel
theorem dL_law_244 : decode cL_law 244 = .ok (.iconst 1, 1) := by decide +kernel
theorem dL_law_245 : decode cL_law 245 = .ok (.iadd, 1) := by decide +kernel
theorem dL_law_246 : decode cL_law 246 = .ok (.iaload, 1) := by decide +kernel
theorem dL_law_247 : decode cL_law 247 = .ok (.invokevirtual 26, 3) := by decide +kernel
theorem dL_law_250 : decode cL_law 250 = .ok (.if_icmp .eq 648, 3) := by decide +kernel
theorem dL_law_253 : decode cL_law 253 = .ok (.iconst 0, 1) := by decide +kernel
theorem dL_law_254 : decode cL_law 254 = .ok (.ireturn, 1) := by decide +kernel
theorem dL_law_255 : decode cL_law 255 = .ok (.aload_n 1, 1) := by decide +kernel
theorem dL_law_256 : decode cL_law 256 = .ok (.aload_n 0, 1) := by decide +kernel
theorem dL_law_257 : decode cL_law 257 = .ok (.iload_n 3, 1) := by decide +kernel
theorem dL_law_258 : decode cL_law 258 = .ok (.iconst 1, 1) := by decide +kernel
theorem dL_law_259 : decode cL_law 259 = .ok (.iadd, 1) := by decide +kernel
theorem dL_law_260 : decode cL_law 260 = .ok (.iaload, 1) := by decide +kernel
theorem dL_law_261 : decode cL_law 261 = .ok (.aload_n 0, 1) := by decide +kernel
theorem dL_law_262 : decode cL_law 262 = .ok (.iload_n 3, 1) := by decide +kernel
theorem dL_law_263 : decode cL_law 263 = .ok (.iconst 2, 1) := by decide +kernel
theorem dL_law_264 : decode cL_law 264 = .ok (.iadd, 1) := by decide +kernel
theorem dL_law_265 : decode cL_law 265 = .ok (.iaload, 1) := by decide +kernel
theorem dL_law_266 : decode cL_law 266 = .ok (.aload_n 0, 1) := by decide +kernel
theorem dL_law_267 : decode cL_law 267 = .ok (.iload_n 3, 1) := by decide +kernel
theorem dL_law_268 : decode cL_law 268 = .ok (.iconst 3, 1) := by decide +kernel
theorem dL_law_269 : decode cL_law 269 = .ok (.iadd, 1) := by decide +kernel
theorem dL_law_270 : decode cL_law 270 = .ok (.iaload, 1) := by decide +kernel
theorem dL_law_271 : decode cL_law 271 = .ok (.invokevirtual 27, 3) := by decide +kernel
theorem dL_law_274 : decode cL_law 274 = .ok (.aload_n 2, 1) := by decide +kernel
theorem dL_law_275 : decode cL_law 275 = .ok (.aload_n 0, 1) := by decide +kernel
theorem dL_law_276 : decode cL_law 276 = .ok (.iload_n 3, 1) := by decide +kernel
theorem dL_law_277 : decode cL_law 277 = .ok (.iconst 1, 1) := by decide +kernel
theorem dL_law_278 : decode cL_law 278 = .ok (.iadd, 1) := by decide +kernel
theorem dL_law_279 : decode cL_law 279 = .ok (.iaload, 1) := by decide +kernel
theorem dL_law_280 : decode cL_law 280 = .ok (.aload_n 0, 1) := by decide +kernel
theorem dL_law_281 : decode cL_law 281 = .ok (.iload_n 3, 1) := by decide +kernel
theorem dL_law_282 : decode cL_law 282 = .ok (.iconst 2, 1) := by decide +kernel
theorem dL_law_283 : decode cL_law 283 = .ok (.iadd, 1) := by decide +kernel
theorem dL_law_284 : decode cL_law 284 = .ok (.iaload, 1) := by decide +kernel
theorem dL_law_285 : decode cL_law 285 = .ok (.aload_n 0, 1) := by decide +kernel
theorem dL_law_286 : decode cL_law 286 = .ok (.iload_n 3, 1) := by decide +kernel
theorem dL_law_287 : decode cL_law 287 = .ok (.iconst 3, 1) := by decide +kernel
theorem dL_law_288 : decode cL_law 288 = .ok (.iadd, 1) := by decide +kernel
theorem dL_law_289 : decode cL_law 289 = .ok (.iaload, 1) := by decide +kernel
theorem dL_law_290 : decode cL_law 290 = .ok (.invokevirtual 31, 3) := by decide +kernel
theorem dL_law_293 : decode cL_law 293 = .ok (.if_icmp .eq 605, 3) := by decide +kernel
theorem dL_law_296 : decode cL_law 296 = .ok (.iconst 0, 1) := by decide +kernel
theorem dL_law_297 : decode cL_law 297 = .ok (.ireturn, 1) := by decide +kernel
theorem dL_law_298 : decode cL_law 298 = .ok (.aload_n 1, 1) := by decide +kernel
theorem dL_law_299 : decode cL_law 299 = .ok (.aload_n 0, 1) := by decide +kernel
theorem dL_law_300 : decode cL_law 300 = .ok (.iload_n 3, 1) := by decide +kernel
theorem dL_law_301 : decode cL_law 301 = .ok (.iconst 1, 1) := by decide +kernel
theorem dL_law_302 : decode cL_law 302 = .ok (.iadd, 1) := by decide +kernel
theorem dL_law_303 : decode cL_law 303 = .ok (.iaload, 1) := by decide +kernel
theorem dL_law_304 : decode cL_law 304 = .ok (.aload_n 0, 1) := by decide +kernel
theorem dL_law_305 : decode cL_law 305 = .ok (.iload_n 3, 1) := by decide +kernel
theorem dL_law_306 : decode cL_law 306 = .ok (.iconst 2, 1) := by decide +kernel
theorem dL_law_307 : decode cL_law 307 = .ok (.iadd, 1) := by decide +kernel
theorem dL_law_308 : decode cL_law 308 = .ok (.iaload, 1) := by decide +kernel
theorem dL_law_309 : decode cL_law 309 = .ok (.aload_n 0, 1) := by decide +kernel
theorem dL_law_310 : decode cL_law 310 = .ok (.iload_n 3, 1) := by decide +kernel
theorem dL_law_311 : decode cL_law 311 = .ok (.iconst 3, 1) := by decide +kernel
theorem dL_law_312 : decode cL_law 312 = .ok (.iadd, 1) := by decide +kernel
theorem dL_law_313 : decode cL_law 313 = .ok (.iaload, 1) := by decide +kernel
theorem dL_law_314 : decode cL_law 314 = .ok (.invokevirtual 32, 3) := by decide +kernel
theorem dL_law_317 : decode cL_law 317 = .ok (.aload_n 2, 1) := by decide +kernel
theorem dL_law_318 : decode cL_law 318 = .ok (.aload_n 0, 1) := by decide +kernel
theorem dL_law_319 : decode cL_law 319 = .ok (.iload_n 3, 1) := by decide +kernel
theorem dL_law_320 : decode cL_law 320 = .ok (.iconst 1, 1) := by decide +kernel
theorem dL_law_321 : decode cL_law 321 = .ok (.iadd, 1) := by decide +kernel
theorem dL_law_322 : decode cL_law 322 = .ok (.iaload, 1) := by decide +kernel
theorem dL_law_323 : decode cL_law 323 = .ok (.aload_n 0, 1) := by decide +kernel
theorem dL_law_324 : decode cL_law 324 = .ok (.iload_n 3, 1) := by decide +kernel
theorem dL_law_325 : decode cL_law 325 = .ok (.iconst 2, 1) := by decide +kernel
theorem dL_law_326 : decode cL_law 326 = .ok (.iadd, 1) := by decide +kernel
theorem dL_law_327 : decode cL_law 327 = .ok (.iaload, 1) := by decide +kernel
theorem dL_law_328 : decode cL_law 328 = .ok (.aload_n 0, 1) := by decide +kernel
theorem dL_law_329 : decode cL_law 329 = .ok (.iload_n 3, 1) := by decide +kernel
theorem dL_law_330 : decode cL_law 330 = .ok (.iconst 3, 1) := by decide +kernel
theorem dL_law_331 : decode cL_law 331 = .ok (.iadd, 1) := by decide +kernel
theorem dL_law_332 : decode cL_law 332 = .ok (.iaload, 1) := by decide +kernel
theorem dL_law_333 : decode cL_law 333 = .ok (.invokevirtual 35, 3) := by decide +kernel
theorem dL_law_336 : decode cL_law 336 = .ok (.if_icmp .eq 562, 3) := by decide +kernel
theorem dL_law_339 : decode cL_law 339 = .ok (.iconst 0, 1) := by decide +kernel
theorem dL_law_340 : decode cL_law 340 = .ok (.ireturn, 1) := by decide +kernel
theorem dL_law_341 : decode cL_law 341 = .ok (.aload_n 1, 1) := by decide +kernel
theorem dL_law_342 : decode cL_law 342 = .ok (.aload_n 0, 1) := by decide +kernel
theorem dL_law_343 : decode cL_law 343 = .ok (.iload_n 3, 1) := by decide +kernel
theorem dL_law_344 : decode cL_law 344 = .ok (.iconst 1, 1) := by decide +kernel
theorem dL_law_345 : decode cL_law 345 = .ok (.iadd, 1) := by decide +kernel
theorem dL_law_346 : decode cL_law 346 = .ok (.iaload, 1) := by decide +kernel
theorem dL_law_347 : decode cL_law 347 = .ok (.invokevirtual 36, 3) := by decide +kernel
theorem dL_law_350 : decode cL_law 350 = .ok (.aload_n 2, 1) := by decide +kernel
theorem dL_law_351 : decode cL_law 351 = .ok (.aload_n 0, 1) := by decide +kernel
theorem dL_law_352 : decode cL_law 352 = .ok (.iload_n 3, 1) := by decide +kernel
theorem dL_law_353 : decode cL_law 353 = .ok (.iconst 1, 1) := by decide +kernel
theorem dL_law_354 : decode cL_law 354 = .ok (.iadd, 1) := by decide +kernel
theorem dL_law_355 : decode cL_law 355 = .ok (.iaload, 1) := by decide +kernel
theorem dL_law_356 : decode cL_law 356 = .ok (.invokevirtual 39, 3) := by decide +kernel
theorem dL_law_359 : decode cL_law 359 = .ok (.if_icmp .eq 539, 3) := by decide +kernel
theorem dL_law_362 : decode cL_law 362 = .ok (.iconst 0, 1) := by decide +kernel
theorem dL_law_363 : decode cL_law 363 = .ok (.ireturn, 1) := by decide +kernel
theorem dL_law_364 : decode cL_law 364 = .ok (.aload_n 1, 1) := by decide +kernel
theorem dL_law_365 : decode cL_law 365 = .ok (.aload_n 0, 1) := by decide +kernel
theorem dL_law_366 : decode cL_law 366 = .ok (.iload_n 3, 1) := by decide +kernel
theorem dL_law_367 : decode cL_law 367 = .ok (.iconst 1, 1) := by decide +kernel
theorem dL_law_368 : decode cL_law 368 = .ok (.iadd, 1) := by decide +kernel
theorem dL_law_369 : decode cL_law 369 = .ok (.iaload, 1) := by decide +kernel
theorem dL_law_370 : decode cL_law 370 = .ok (.aload_n 0, 1) := by decide +kernel
theorem dL_law_371 : decode cL_law 371 = .ok (.iload_n 3, 1) := by decide +kernel
theorem dL_law_372 : decode cL_law 372 = .ok (.iconst 2, 1) := by decide +kernel
theorem dL_law_373 : decode cL_law 373 = .ok (.iadd, 1) := by decide +kernel
theorem dL_law_374 : decode cL_law 374 = .ok (.iaload, 1) := by decide +kernel
theorem dL_law_375 : decode cL_law 375 = .ok (.aload_n 0, 1) := by decide +kernel
theorem dL_law_376 : decode cL_law 376 = .ok (.iload_n 3, 1) := by decide +kernel
theorem dL_law_377 : decode cL_law 377 = .ok (.iconst 3, 1) := by decide +kernel
theorem dL_law_378 : decode cL_law 378 = .ok (.iadd, 1) := by decide +kernel
theorem dL_law_379 : decode cL_law 379 = .ok (.iaload, 1) := by decide +kernel
theorem dL_law_380 : decode cL_law 380 = .ok (.aload_n 0, 1) := by decide +kernel
theorem dL_law_381 : decode cL_law 381 = .ok (.iload_n 3, 1) := by decide +kernel
theorem dL_law_382 : decode cL_law 382 = .ok (.iconst 4, 1) := by decide +kernel
theorem dL_law_383 : decode cL_law 383 = .ok (.iadd, 1) := by decide +kernel
theorem dL_law_384 : decode cL_law 384 = .ok (.iaload, 1) := by decide +kernel
theorem dL_law_385 : decode cL_law 385 = .ok (.invokevirtual 40, 3) := by decide +kernel
theorem dL_law_388 : decode cL_law 388 = .ok (.aload_n 2, 1) := by decide +kernel
theorem dL_law_389 : decode cL_law 389 = .ok (.aload_n 0, 1) := by decide +kernel
theorem dL_law_390 : decode cL_law 390 = .ok (.iload_n 3, 1) := by decide +kernel
theorem dL_law_391 : decode cL_law 391 = .ok (.iconst 1, 1) := by decide +kernel
theorem dL_law_392 : decode cL_law 392 = .ok (.iadd, 1) := by decide +kernel
theorem dL_law_393 : decode cL_law 393 = .ok (.iaload, 1) := by decide +kernel
theorem dL_law_394 : decode cL_law 394 = .ok (.aload_n 0, 1) := by decide +kernel
theorem dL_law_395 : decode cL_law 395 = .ok (.iload_n 3, 1) := by decide +kernel
theorem dL_law_396 : decode cL_law 396 = .ok (.iconst 2, 1) := by decide +kernel
theorem dL_law_397 : decode cL_law 397 = .ok (.iadd, 1) := by decide +kernel
theorem dL_law_398 : decode cL_law 398 = .ok (.iaload, 1) := by decide +kernel
theorem dL_law_399 : decode cL_law 399 = .ok (.aload_n 0, 1) := by decide +kernel
theorem dL_law_400 : decode cL_law 400 = .ok (.iload_n 3, 1) := by decide +kernel
theorem dL_law_401 : decode cL_law 401 = .ok (.iconst 3, 1) := by decide +kernel
theorem dL_law_402 : decode cL_law 402 = .ok (.iadd, 1) := by decide +kernel
theorem dL_law_403 : decode cL_law 403 = .ok (.iaload, 1) := by decide +kernel
theorem dL_law_404 : decode cL_law 404 = .ok (.aload_n 0, 1) := by decide +kernel
theorem dL_law_405 : decode cL_law 405 = .ok (.iload_n 3, 1) := by decide +kernel
theorem dL_law_406 : decode cL_law 406 = .ok (.iconst 4, 1) := by decide +kernel
theorem dL_law_407 : decode cL_law 407 = .ok (.iadd, 1) := by decide +kernel
theorem dL_law_408 : decode cL_law 408 = .ok (.iaload, 1) := by decide +kernel
theorem dL_law_409 : decode cL_law 409 = .ok (.invokevirtual 43, 3) := by decide +kernel
theorem dL_law_412 : decode cL_law 412 = .ok (.if_icmp .eq 486, 3) := by decide +kernel
theorem dL_law_415 : decode cL_law 415 = .ok (.iconst 0, 1) := by decide +kernel
theorem dL_law_416 : decode cL_law 416 = .ok (.ireturn, 1) := by decide +kernel
theorem dL_law_417 : decode cL_law 417 = .ok (.aload_n 1, 1) := by decide +kernel
theorem dL_law_418 : decode cL_law 418 = .ok (.aload_n 0, 1) := by decide +kernel
theorem dL_law_419 : decode cL_law 419 = .ok (.iload_n 3, 1) := by decide +kernel
theorem dL_law_420 : decode cL_law 420 = .ok (.iconst 1, 1) := by decide +kernel
theorem dL_law_421 : decode cL_law 421 = .ok (.iadd, 1) := by decide +kernel
theorem dL_law_422 : decode cL_law 422 = .ok (.iaload, 1) := by decide +kernel
theorem dL_law_423 : decode cL_law 423 = .ok (.aload_n 0, 1) := by decide +kernel
theorem dL_law_424 : decode cL_law 424 = .ok (.iload_n 3, 1) := by decide +kernel
theorem dL_law_425 : decode cL_law 425 = .ok (.iconst 2, 1) := by decide +kernel
theorem dL_law_426 : decode cL_law 426 = .ok (.iadd, 1) := by decide +kernel
theorem dL_law_427 : decode cL_law 427 = .ok (.iaload, 1) := by decide +kernel
theorem dL_law_428 : decode cL_law 428 = .ok (.invokevirtual 44, 3) := by decide +kernel
theorem dL_law_431 : decode cL_law 431 = .ok (.aload_n 2, 1) := by decide +kernel
theorem dL_law_432 : decode cL_law 432 = .ok (.aload_n 0, 1) := by decide +kernel
theorem dL_law_433 : decode cL_law 433 = .ok (.iload_n 3, 1) := by decide +kernel
theorem dL_law_434 : decode cL_law 434 = .ok (.iconst 1, 1) := by decide +kernel
theorem dL_law_435 : decode cL_law 435 = .ok (.iadd, 1) := by decide +kernel
theorem dL_law_436 : decode cL_law 436 = .ok (.iaload, 1) := by decide +kernel
theorem dL_law_437 : decode cL_law 437 = .ok (.aload_n 0, 1) := by decide +kernel
theorem dL_law_438 : decode cL_law 438 = .ok (.iload_n 3, 1) := by decide +kernel
theorem dL_law_439 : decode cL_law 439 = .ok (.iconst 2, 1) := by decide +kernel
theorem dL_law_440 : decode cL_law 440 = .ok (.iadd, 1) := by decide +kernel
theorem dL_law_441 : decode cL_law 441 = .ok (.iaload, 1) := by decide +kernel
theorem dL_law_442 : decode cL_law 442 = .ok (.invokevirtual 48, 3) := by decide +kernel
theorem dL_law_445 : decode cL_law 445 = .ok (.if_icmp .eq 453, 3) := by decide +kernel
theorem dL_law_448 : decode cL_law 448 = .ok (.iconst 0, 1) := by decide +kernel
theorem dL_law_449 : decode cL_law 449 = .ok (.ireturn, 1) := by decide +kernel
theorem dL_law_450 : decode cL_law 450 = .ok (.aload_n 1, 1) := by decide +kernel
theorem dL_law_451 : decode cL_law 451 = .ok (.invokevirtual 49, 3) := by decide +kernel
theorem dL_law_454 : decode cL_law 454 = .ok (.aload_n 2, 1) := by decide +kernel
theorem dL_law_455 : decode cL_law 455 = .ok (.invokevirtual 53, 3) := by decide +kernel
theorem dL_law_458 : decode cL_law 458 = .ok (.if_icmp .eq 440, 3) := by decide +kernel
theorem dL_law_461 : decode cL_law 461 = .ok (.iconst 0, 1) := by decide +kernel
theorem dL_law_462 : decode cL_law 462 = .ok (.ireturn, 1) := by decide +kernel
theorem dL_law_463 : decode cL_law 463 = .ok (.aload_n 1, 1) := by decide +kernel
theorem dL_law_464 : decode cL_law 464 = .ok (.aload_n 0, 1) := by decide +kernel
theorem dL_law_465 : decode cL_law 465 = .ok (.iload_n 3, 1) := by decide +kernel
theorem dL_law_466 : decode cL_law 466 = .ok (.iconst 1, 1) := by decide +kernel
theorem dL_law_467 : decode cL_law 467 = .ok (.iadd, 1) := by decide +kernel
theorem dL_law_468 : decode cL_law 468 = .ok (.iaload, 1) := by decide +kernel
theorem dL_law_469 : decode cL_law 469 = .ok (.invokevirtual 54, 3) := by decide +kernel
theorem dL_law_472 : decode cL_law 472 = .ok (.aload_n 2, 1) := by decide +kernel
theorem dL_law_473 : decode cL_law 473 = .ok (.aload_n 0, 1) := by decide +kernel
theorem dL_law_474 : decode cL_law 474 = .ok (.iload_n 3, 1) := by decide +kernel
theorem dL_law_475 : decode cL_law 475 = .ok (.iconst 1, 1) := by decide +kernel
theorem dL_law_476 : decode cL_law 476 = .ok (.iadd, 1) := by decide +kernel
theorem dL_law_477 : decode cL_law 477 = .ok (.iaload, 1) := by decide +kernel
theorem dL_law_478 : decode cL_law 478 = .ok (.invokevirtual 57, 3) := by decide +kernel
theorem dL_law_481 : decode cL_law 481 = .ok (.if_icmp .eq 417, 3) := by decide +kernel
theorem dL_law_484 : decode cL_law 484 = .ok (.iconst 0, 1) := by decide +kernel
theorem dL_law_485 : decode cL_law 485 = .ok (.ireturn, 1) := by decide +kernel
theorem dL_law_486 : decode cL_law 486 = .ok (.aload_n 1, 1) := by decide +kernel
theorem dL_law_487 : decode cL_law 487 = .ok (.aload_n 0, 1) := by decide +kernel
theorem dL_law_488 : decode cL_law 488 = .ok (.iload_n 3, 1) := by decide +kernel
theorem dL_law_489 : decode cL_law 489 = .ok (.iconst 1, 1) := by decide +kernel
theorem dL_law_490 : decode cL_law 490 = .ok (.iadd, 1) := by decide +kernel
theorem dL_law_491 : decode cL_law 491 = .ok (.iaload, 1) := by decide +kernel
theorem dL_law_492 : decode cL_law 492 = .ok (.aload_n 0, 1) := by decide +kernel
theorem dL_law_493 : decode cL_law 493 = .ok (.iload_n 3, 1) := by decide +kernel
theorem dL_law_494 : decode cL_law 494 = .ok (.iconst 2, 1) := by decide +kernel
theorem dL_law_495 : decode cL_law 495 = .ok (.iadd, 1) := by decide +kernel
theorem dL_law_496 : decode cL_law 496 = .ok (.iaload, 1) := by decide +kernel
theorem dL_law_497 : decode cL_law 497 = .ok (.aload_n 0, 1) := by decide +kernel
theorem dL_law_498 : decode cL_law 498 = .ok (.iload_n 3, 1) := by decide +kernel
theorem dL_law_499 : decode cL_law 499 = .ok (.iconst 3, 1) := by decide +kernel
theorem dL_law_500 : decode cL_law 500 = .ok (.iadd, 1) := by decide +kernel
theorem dL_law_501 : decode cL_law 501 = .ok (.iaload, 1) := by decide +kernel
theorem dL_law_502 : decode cL_law 502 = .ok (.aload_n 0, 1) := by decide +kernel
theorem dL_law_503 : decode cL_law 503 = .ok (.iload_n 3, 1) := by decide +kernel
theorem dL_law_504 : decode cL_law 504 = .ok (.iconst 4, 1) := by decide +kernel
theorem dL_law_505 : decode cL_law 505 = .ok (.iadd, 1) := by decide +kernel
theorem dL_law_506 : decode cL_law 506 = .ok (.iaload, 1) := by decide +kernel
theorem dL_law_507 : decode cL_law 507 = .ok (.invokevirtual 58, 3) := by decide +kernel
theorem dL_law_510 : decode cL_law 510 = .ok (.aload_n 2, 1) := by decide +kernel
theorem dL_law_511 : decode cL_law 511 = .ok (.aload_n 0, 1) := by decide +kernel
theorem dL_law_512 : decode cL_law 512 = .ok (.iload_n 3, 1) := by decide +kernel
theorem dL_law_513 : decode cL_law 513 = .ok (.iconst 1, 1) := by decide +kernel
theorem dL_law_514 : decode cL_law 514 = .ok (.iadd, 1) := by decide +kernel
theorem dL_law_515 : decode cL_law 515 = .ok (.iaload, 1) := by decide +kernel
theorem dL_law_516 : decode cL_law 516 = .ok (.aload_n 0, 1) := by decide +kernel
theorem dL_law_517 : decode cL_law 517 = .ok (.iload_n 3, 1) := by decide +kernel
theorem dL_law_518 : decode cL_law 518 = .ok (.iconst 2, 1) := by decide +kernel
theorem dL_law_519 : decode cL_law 519 = .ok (.iadd, 1) := by decide +kernel
theorem dL_law_520 : decode cL_law 520 = .ok (.iaload, 1) := by decide +kernel
theorem dL_law_521 : decode cL_law 521 = .ok (.aload_n 0, 1) := by decide +kernel
theorem dL_law_522 : decode cL_law 522 = .ok (.iload_n 3, 1) := by decide +kernel
theorem dL_law_523 : decode cL_law 523 = .ok (.iconst 3, 1) := by decide +kernel
theorem dL_law_524 : decode cL_law 524 = .ok (.iadd, 1) := by decide +kernel
theorem dL_law_525 : decode cL_law 525 = .ok (.iaload, 1) := by decide +kernel
theorem dL_law_526 : decode cL_law 526 = .ok (.aload_n 0, 1) := by decide +kernel
theorem dL_law_527 : decode cL_law 527 = .ok (.iload_n 3, 1) := by decide +kernel
theorem dL_law_528 : decode cL_law 528 = .ok (.iconst 4, 1) := by decide +kernel
theorem dL_law_529 : decode cL_law 529 = .ok (.iadd, 1) := by decide +kernel
theorem dL_law_530 : decode cL_law 530 = .ok (.iaload, 1) := by decide +kernel
theorem dL_law_531 : decode cL_law 531 = .ok (.invokevirtual 62, 3) := by decide +kernel
theorem dL_law_534 : decode cL_law 534 = .ok (.lcmp, 1) := by decide +kernel
theorem dL_law_535 : decode cL_law 535 = .ok (.ifCond .eq 363, 3) := by decide +kernel
theorem dL_law_538 : decode cL_law 538 = .ok (.iconst 0, 1) := by decide +kernel
theorem dL_law_539 : decode cL_law 539 = .ok (.ireturn, 1) := by decide +kernel
theorem dL_law_540 : decode cL_law 540 = .ok (.aload_n 1, 1) := by decide +kernel
theorem dL_law_541 : decode cL_law 541 = .ok (.aload_n 0, 1) := by decide +kernel
theorem dL_law_542 : decode cL_law 542 = .ok (.iload_n 3, 1) := by decide +kernel
theorem dL_law_543 : decode cL_law 543 = .ok (.iconst 1, 1) := by decide +kernel
theorem dL_law_544 : decode cL_law 544 = .ok (.iadd, 1) := by decide +kernel
theorem dL_law_545 : decode cL_law 545 = .ok (.iaload, 1) := by decide +kernel
theorem dL_law_546 : decode cL_law 546 = .ok (.aload_n 0, 1) := by decide +kernel
theorem dL_law_547 : decode cL_law 547 = .ok (.iload_n 3, 1) := by decide +kernel
theorem dL_law_548 : decode cL_law 548 = .ok (.iconst 2, 1) := by decide +kernel
theorem dL_law_549 : decode cL_law 549 = .ok (.iadd, 1) := by decide +kernel
theorem dL_law_550 : decode cL_law 550 = .ok (.iaload, 1) := by decide +kernel
theorem dL_law_551 : decode cL_law 551 = .ok (.invokevirtual 63, 3) := by decide +kernel
theorem dL_law_554 : decode cL_law 554 = .ok (.aload_n 2, 1) := by decide +kernel
theorem dL_law_555 : decode cL_law 555 = .ok (.aload_n 0, 1) := by decide +kernel
theorem dL_law_556 : decode cL_law 556 = .ok (.iload_n 3, 1) := by decide +kernel
theorem dL_law_557 : decode cL_law 557 = .ok (.iconst 1, 1) := by decide +kernel
theorem dL_law_558 : decode cL_law 558 = .ok (.iadd, 1) := by decide +kernel
theorem dL_law_559 : decode cL_law 559 = .ok (.iaload, 1) := by decide +kernel
theorem dL_law_560 : decode cL_law 560 = .ok (.aload_n 0, 1) := by decide +kernel
theorem dL_law_561 : decode cL_law 561 = .ok (.iload_n 3, 1) := by decide +kernel
theorem dL_law_562 : decode cL_law 562 = .ok (.iconst 2, 1) := by decide +kernel
theorem dL_law_563 : decode cL_law 563 = .ok (.iadd, 1) := by decide +kernel
theorem dL_law_564 : decode cL_law 564 = .ok (.iaload, 1) := by decide +kernel
theorem dL_law_565 : decode cL_law 565 = .ok (.invokevirtual 66, 3) := by decide +kernel
theorem dL_law_568 : decode cL_law 568 = .ok (.if_icmp .eq 330, 3) := by decide +kernel
theorem dL_law_571 : decode cL_law 571 = .ok (.iconst 0, 1) := by decide +kernel
theorem dL_law_572 : decode cL_law 572 = .ok (.ireturn, 1) := by decide +kernel
theorem dL_law_573 : decode cL_law 573 = .ok (.aload_n 1, 1) := by decide +kernel
theorem dL_law_574 : decode cL_law 574 = .ok (.aload_n 0, 1) := by decide +kernel
theorem dL_law_575 : decode cL_law 575 = .ok (.iload_n 3, 1) := by decide +kernel
theorem dL_law_576 : decode cL_law 576 = .ok (.iconst 1, 1) := by decide +kernel
theorem dL_law_577 : decode cL_law 577 = .ok (.iadd, 1) := by decide +kernel
theorem dL_law_578 : decode cL_law 578 = .ok (.iaload, 1) := by decide +kernel
theorem dL_law_579 : decode cL_law 579 = .ok (.aload_n 0, 1) := by decide +kernel
theorem dL_law_580 : decode cL_law 580 = .ok (.iload_n 3, 1) := by decide +kernel
theorem dL_law_581 : decode cL_law 581 = .ok (.iconst 2, 1) := by decide +kernel
theorem dL_law_582 : decode cL_law 582 = .ok (.iadd, 1) := by decide +kernel
theorem dL_law_583 : decode cL_law 583 = .ok (.iaload, 1) := by decide +kernel
theorem dL_law_584 : decode cL_law 584 = .ok (.invokevirtual 67, 3) := by decide +kernel
theorem dL_law_587 : decode cL_law 587 = .ok (.aload_n 2, 1) := by decide +kernel
theorem dL_law_588 : decode cL_law 588 = .ok (.aload_n 0, 1) := by decide +kernel
theorem dL_law_589 : decode cL_law 589 = .ok (.iload_n 3, 1) := by decide +kernel
theorem dL_law_590 : decode cL_law 590 = .ok (.iconst 1, 1) := by decide +kernel
theorem dL_law_591 : decode cL_law 591 = .ok (.iadd, 1) := by decide +kernel
theorem dL_law_592 : decode cL_law 592 = .ok (.iaload, 1) := by decide +kernel
theorem dL_law_593 : decode cL_law 593 = .ok (.aload_n 0, 1) := by decide +kernel
theorem dL_law_594 : decode cL_law 594 = .ok (.iload_n 3, 1) := by decide +kernel
theorem dL_law_595 : decode cL_law 595 = .ok (.iconst 2, 1) := by decide +kernel
theorem dL_law_596 : decode cL_law 596 = .ok (.iadd, 1) := by decide +kernel
theorem dL_law_597 : decode cL_law 597 = .ok (.iaload, 1) := by decide +kernel
theorem dL_law_598 : decode cL_law 598 = .ok (.invokevirtual 70, 3) := by decide +kernel
theorem dL_law_601 : decode cL_law 601 = .ok (.if_icmp .eq 297, 3) := by decide +kernel
theorem dL_law_604 : decode cL_law 604 = .ok (.iconst 0, 1) := by decide +kernel
theorem dL_law_605 : decode cL_law 605 = .ok (.ireturn, 1) := by decide +kernel
theorem dL_law_606 : decode cL_law 606 = .ok (.aload_n 1, 1) := by decide +kernel
theorem dL_law_607 : decode cL_law 607 = .ok (.aload_n 0, 1) := by decide +kernel
theorem dL_law_608 : decode cL_law 608 = .ok (.iload_n 3, 1) := by decide +kernel
theorem dL_law_609 : decode cL_law 609 = .ok (.iconst 1, 1) := by decide +kernel
theorem dL_law_610 : decode cL_law 610 = .ok (.iadd, 1) := by decide +kernel
theorem dL_law_611 : decode cL_law 611 = .ok (.iaload, 1) := by decide +kernel
theorem dL_law_612 : decode cL_law 612 = .ok (.invokevirtual 71, 3) := by decide +kernel
theorem dL_law_615 : decode cL_law 615 = .ok (.aload_n 2, 1) := by decide +kernel
theorem dL_law_616 : decode cL_law 616 = .ok (.aload_n 0, 1) := by decide +kernel
theorem dL_law_617 : decode cL_law 617 = .ok (.iload_n 3, 1) := by decide +kernel
theorem dL_law_618 : decode cL_law 618 = .ok (.iconst 1, 1) := by decide +kernel
theorem dL_law_619 : decode cL_law 619 = .ok (.iadd, 1) := by decide +kernel
theorem dL_law_620 : decode cL_law 620 = .ok (.iaload, 1) := by decide +kernel
theorem dL_law_621 : decode cL_law 621 = .ok (.invokevirtual 74, 3) := by decide +kernel
theorem dL_law_624 : decode cL_law 624 = .ok (.if_icmp .eq 274, 3) := by decide +kernel
theorem dL_law_627 : decode cL_law 627 = .ok (.iconst 0, 1) := by decide +kernel
theorem dL_law_628 : decode cL_law 628 = .ok (.ireturn, 1) := by decide +kernel
theorem dL_law_629 : decode cL_law 629 = .ok (.aload_n 1, 1) := by decide +kernel
theorem dL_law_630 : decode cL_law 630 = .ok (.aload_n 0, 1) := by decide +kernel
theorem dL_law_631 : decode cL_law 631 = .ok (.iload_n 3, 1) := by decide +kernel
theorem dL_law_632 : decode cL_law 632 = .ok (.iconst 1, 1) := by decide +kernel
theorem dL_law_633 : decode cL_law 633 = .ok (.iadd, 1) := by decide +kernel
theorem dL_law_634 : decode cL_law 634 = .ok (.iaload, 1) := by decide +kernel
theorem dL_law_635 : decode cL_law 635 = .ok (.aload_n 0, 1) := by decide +kernel
theorem dL_law_636 : decode cL_law 636 = .ok (.iload_n 3, 1) := by decide +kernel
theorem dL_law_637 : decode cL_law 637 = .ok (.iconst 2, 1) := by decide +kernel
theorem dL_law_638 : decode cL_law 638 = .ok (.iadd, 1) := by decide +kernel
theorem dL_law_639 : decode cL_law 639 = .ok (.iaload, 1) := by decide +kernel
theorem dL_law_640 : decode cL_law 640 = .ok (.invokevirtual 75, 3) := by decide +kernel
theorem dL_law_643 : decode cL_law 643 = .ok (.aload_n 2, 1) := by decide +kernel
theorem dL_law_644 : decode cL_law 644 = .ok (.aload_n 0, 1) := by decide +kernel
theorem dL_law_645 : decode cL_law 645 = .ok (.iload_n 3, 1) := by decide +kernel
theorem dL_law_646 : decode cL_law 646 = .ok (.iconst 1, 1) := by decide +kernel
theorem dL_law_647 : decode cL_law 647 = .ok (.iadd, 1) := by decide +kernel
theorem dL_law_648 : decode cL_law 648 = .ok (.iaload, 1) := by decide +kernel
theorem dL_law_649 : decode cL_law 649 = .ok (.aload_n 0, 1) := by decide +kernel
theorem dL_law_650 : decode cL_law 650 = .ok (.iload_n 3, 1) := by decide +kernel
theorem dL_law_651 : decode cL_law 651 = .ok (.iconst 2, 1) := by decide +kernel
theorem dL_law_652 : decode cL_law 652 = .ok (.iadd, 1) := by decide +kernel
theorem dL_law_653 : decode cL_law 653 = .ok (.iaload, 1) := by decide +kernel
theorem dL_law_654 : decode cL_law 654 = .ok (.invokevirtual 78, 3) := by decide +kernel
theorem dL_law_657 : decode cL_law 657 = .ok (.if_icmp .eq 241, 3) := by decide +kernel
theorem dL_law_660 : decode cL_law 660 = .ok (.iconst 0, 1) := by decide +kernel
theorem dL_law_661 : decode cL_law 661 = .ok (.ireturn, 1) := by decide +kernel
theorem dL_law_662 : decode cL_law 662 = .ok (.aload_n 1, 1) := by decide +kernel
theorem dL_law_663 : decode cL_law 663 = .ok (.aload_n 0, 1) := by decide +kernel
theorem dL_law_664 : decode cL_law 664 = .ok (.iload_n 3, 1) := by decide +kernel
theorem dL_law_665 : decode cL_law 665 = .ok (.iconst 1, 1) := by decide +kernel
theorem dL_law_666 : decode cL_law 666 = .ok (.iadd, 1) := by decide +kernel
theorem dL_law_667 : decode cL_law 667 = .ok (.iaload, 1) := by decide +kernel
theorem dL_law_668 : decode cL_law 668 = .ok (.invokevirtual 79, 3) := by decide +kernel
theorem dL_law_671 : decode cL_law 671 = .ok (.aload_n 2, 1) := by decide +kernel
theorem dL_law_672 : decode cL_law 672 = .ok (.aload_n 0, 1) := by decide +kernel
theorem dL_law_673 : decode cL_law 673 = .ok (.iload_n 3, 1) := by decide +kernel
theorem dL_law_674 : decode cL_law 674 = .ok (.iconst 1, 1) := by decide +kernel
theorem dL_law_675 : decode cL_law 675 = .ok (.iadd, 1) := by decide +kernel
theorem dL_law_676 : decode cL_law 676 = .ok (.iaload, 1) := by decide +kernel
theorem dL_law_677 : decode cL_law 677 = .ok (.invokevirtual 82, 3) := by decide +kernel
theorem dL_law_680 : decode cL_law 680 = .ok (.if_icmp .eq 218, 3) := by decide +kernel
theorem dL_law_683 : decode cL_law 683 = .ok (.iconst 0, 1) := by decide +kernel
theorem dL_law_684 : decode cL_law 684 = .ok (.ireturn, 1) := by decide +kernel
theorem dL_law_685 : decode cL_law 685 = .ok (.aload_n 1, 1) := by decide +kernel
theorem dL_law_686 : decode cL_law 686 = .ok (.aload_n 0, 1) := by decide +kernel
theorem dL_law_687 : decode cL_law 687 = .ok (.iload_n 3, 1) := by decide +kernel
theorem dL_law_688 : decode cL_law 688 = .ok (.iconst 1, 1) := by decide +kernel
theorem dL_law_689 : decode cL_law 689 = .ok (.iadd, 1) := by decide +kernel
theorem dL_law_690 : decode cL_law 690 = .ok (.iaload, 1) := by decide +kernel
theorem dL_law_691 : decode cL_law 691 = .ok (.aload_n 0, 1) := by decide +kernel
theorem dL_law_692 : decode cL_law 692 = .ok (.iload_n 3, 1) := by decide +kernel
theorem dL_law_693 : decode cL_law 693 = .ok (.iconst 2, 1) := by decide +kernel
theorem dL_law_694 : decode cL_law 694 = .ok (.iadd, 1) := by decide +kernel
theorem dL_law_695 : decode cL_law 695 = .ok (.iaload, 1) := by decide +kernel
theorem dL_law_696 : decode cL_law 696 = .ok (.invokevirtual 83, 3) := by decide +kernel
theorem dL_law_699 : decode cL_law 699 = .ok (.aload_n 2, 1) := by decide +kernel
theorem dL_law_700 : decode cL_law 700 = .ok (.aload_n 0, 1) := by decide +kernel
theorem dL_law_701 : decode cL_law 701 = .ok (.iload_n 3, 1) := by decide +kernel
theorem dL_law_702 : decode cL_law 702 = .ok (.iconst 1, 1) := by decide +kernel
theorem dL_law_703 : decode cL_law 703 = .ok (.iadd, 1) := by decide +kernel
theorem dL_law_704 : decode cL_law 704 = .ok (.iaload, 1) := by decide +kernel
theorem dL_law_705 : decode cL_law 705 = .ok (.aload_n 0, 1) := by decide +kernel
theorem dL_law_706 : decode cL_law 706 = .ok (.iload_n 3, 1) := by decide +kernel
theorem dL_law_707 : decode cL_law 707 = .ok (.iconst 2, 1) := by decide +kernel
theorem dL_law_708 : decode cL_law 708 = .ok (.iadd, 1) := by decide +kernel
theorem dL_law_709 : decode cL_law 709 = .ok (.iaload, 1) := by decide +kernel
theorem dL_law_710 : decode cL_law 710 = .ok (.invokevirtual 86, 3) := by decide +kernel
theorem dL_law_713 : decode cL_law 713 = .ok (.if_icmp .eq 185, 3) := by decide +kernel
theorem dL_law_716 : decode cL_law 716 = .ok (.iconst 0, 1) := by decide +kernel
theorem dL_law_717 : decode cL_law 717 = .ok (.ireturn, 1) := by decide +kernel
theorem dL_law_718 : decode cL_law 718 = .ok (.aload_n 1, 1) := by decide +kernel
theorem dL_law_719 : decode cL_law 719 = .ok (.invokevirtual 87, 3) := by decide +kernel
theorem dL_law_722 : decode cL_law 722 = .ok (.aload_n 2, 1) := by decide +kernel
theorem dL_law_723 : decode cL_law 723 = .ok (.invokevirtual 90, 3) := by decide +kernel
theorem dL_law_726 : decode cL_law 726 = .ok (.if_icmp .eq 172, 3) := by decide +kernel
theorem dL_law_729 : decode cL_law 729 = .ok (.iconst 0, 1) := by decide +kernel
theorem dL_law_730 : decode cL_law 730 = .ok (.ireturn, 1) := by decide +kernel
theorem dL_law_731 : decode cL_law 731 = .ok (.aload_n 1, 1) := by decide +kernel
theorem dL_law_732 : decode cL_law 732 = .ok (.aload_n 0, 1) := by decide +kernel
theorem dL_law_733 : decode cL_law 733 = .ok (.iload_n 3, 1) := by decide +kernel
theorem dL_law_734 : decode cL_law 734 = .ok (.iconst 1, 1) := by decide +kernel
theorem dL_law_735 : decode cL_law 735 = .ok (.iadd, 1) := by decide +kernel
theorem dL_law_736 : decode cL_law 736 = .ok (.iaload, 1) := by decide +kernel
theorem dL_law_737 : decode cL_law 737 = .ok (.invokevirtual 91, 3) := by decide +kernel
theorem dL_law_740 : decode cL_law 740 = .ok (.aload_n 2, 1) := by decide +kernel
theorem dL_law_741 : decode cL_law 741 = .ok (.aload_n 0, 1) := by decide +kernel
theorem dL_law_742 : decode cL_law 742 = .ok (.iload_n 3, 1) := by decide +kernel
theorem dL_law_743 : decode cL_law 743 = .ok (.iconst 1, 1) := by decide +kernel
theorem dL_law_744 : decode cL_law 744 = .ok (.iadd, 1) := by decide +kernel
theorem dL_law_745 : decode cL_law 745 = .ok (.iaload, 1) := by decide +kernel
theorem dL_law_746 : decode cL_law 746 = .ok (.invokevirtual 94, 3) := by decide +kernel
theorem dL_law_749 : decode cL_law 749 = .ok (.if_icmp .eq 149, 3) := by decide +kernel
theorem dL_law_752 : decode cL_law 752 = .ok (.iconst 0, 1) := by decide +kernel
theorem dL_law_753 : decode cL_law 753 = .ok (.ireturn, 1) := by decide +kernel
theorem dL_law_754 : decode cL_law 754 = .ok (.aload_n 1, 1) := by decide +kernel
theorem dL_law_755 : decode cL_law 755 = .ok (.aload_n 0, 1) := by decide +kernel
theorem dL_law_756 : decode cL_law 756 = .ok (.iload_n 3, 1) := by decide +kernel
theorem dL_law_757 : decode cL_law 757 = .ok (.iconst 1, 1) := by decide +kernel
theorem dL_law_758 : decode cL_law 758 = .ok (.iadd, 1) := by decide +kernel
theorem dL_law_759 : decode cL_law 759 = .ok (.iaload, 1) := by decide +kernel
theorem dL_law_760 : decode cL_law 760 = .ok (.aload_n 0, 1) := by decide +kernel
theorem dL_law_761 : decode cL_law 761 = .ok (.iload_n 3, 1) := by decide +kernel
theorem dL_law_762 : decode cL_law 762 = .ok (.iconst 2, 1) := by decide +kernel
theorem dL_law_763 : decode cL_law 763 = .ok (.iadd, 1) := by decide +kernel
theorem dL_law_764 : decode cL_law 764 = .ok (.iaload, 1) := by decide +kernel
theorem dL_law_765 : decode cL_law 765 = .ok (.invokevirtual 95, 3) := by decide +kernel
theorem dL_law_768 : decode cL_law 768 = .ok (.aload_n 2, 1) := by decide +kernel
theorem dL_law_769 : decode cL_law 769 = .ok (.aload_n 0, 1) := by decide +kernel
theorem dL_law_770 : decode cL_law 770 = .ok (.iload_n 3, 1) := by decide +kernel
theorem dL_law_771 : decode cL_law 771 = .ok (.iconst 1, 1) := by decide +kernel
theorem dL_law_772 : decode cL_law 772 = .ok (.iadd, 1) := by decide +kernel
theorem dL_law_773 : decode cL_law 773 = .ok (.iaload, 1) := by decide +kernel
theorem dL_law_774 : decode cL_law 774 = .ok (.aload_n 0, 1) := by decide +kernel
theorem dL_law_775 : decode cL_law 775 = .ok (.iload_n 3, 1) := by decide +kernel
theorem dL_law_776 : decode cL_law 776 = .ok (.iconst 2, 1) := by decide +kernel
theorem dL_law_777 : decode cL_law 777 = .ok (.iadd, 1) := by decide +kernel
theorem dL_law_778 : decode cL_law 778 = .ok (.iaload, 1) := by decide +kernel
theorem dL_law_779 : decode cL_law 779 = .ok (.invokevirtual 98, 3) := by decide +kernel
theorem dL_law_782 : decode cL_law 782 = .ok (.if_icmp .eq 116, 3) := by decide +kernel
theorem dL_law_785 : decode cL_law 785 = .ok (.iconst 0, 1) := by decide +kernel
theorem dL_law_786 : decode cL_law 786 = .ok (.ireturn, 1) := by decide +kernel
theorem dL_law_787 : decode cL_law 787 = .ok (.aload_n 1, 1) := by decide +kernel
theorem dL_law_788 : decode cL_law 788 = .ok (.invokevirtual 99, 3) := by decide +kernel
theorem dL_law_791 : decode cL_law 791 = .ok (.aload_n 2, 1) := by decide +kernel
theorem dL_law_792 : decode cL_law 792 = .ok (.invokevirtual 102, 3) := by decide +kernel
theorem dL_law_795 : decode cL_law 795 = .ok (.if_icmp .eq 103, 3) := by decide +kernel
theorem dL_law_798 : decode cL_law 798 = .ok (.iconst 0, 1) := by decide +kernel
theorem dL_law_799 : decode cL_law 799 = .ok (.ireturn, 1) := by decide +kernel
theorem dL_law_800 : decode cL_law 800 = .ok (.aload_n 1, 1) := by decide +kernel
theorem dL_law_801 : decode cL_law 801 = .ok (.invokevirtual 103, 3) := by decide +kernel
theorem dL_law_804 : decode cL_law 804 = .ok (.aload_n 2, 1) := by decide +kernel
theorem dL_law_805 : decode cL_law 805 = .ok (.invokevirtual 106, 3) := by decide +kernel
theorem dL_law_808 : decode cL_law 808 = .ok (.if_icmp .eq 90, 3) := by decide +kernel
theorem dL_law_811 : decode cL_law 811 = .ok (.iconst 0, 1) := by decide +kernel
theorem dL_law_812 : decode cL_law 812 = .ok (.ireturn, 1) := by decide +kernel
theorem dL_law_813 : decode cL_law 813 = .ok (.aload_n 1, 1) := by decide +kernel
theorem dL_law_814 : decode cL_law 814 = .ok (.invokevirtual 107, 3) := by decide +kernel
theorem dL_law_817 : decode cL_law 817 = .ok (.aload_n 2, 1) := by decide +kernel
theorem dL_law_818 : decode cL_law 818 = .ok (.invokevirtual 110, 3) := by decide +kernel
theorem dL_law_821 : decode cL_law 821 = .ok (.if_icmp .eq 77, 3) := by decide +kernel
theorem dL_law_824 : decode cL_law 824 = .ok (.iconst 0, 1) := by decide +kernel
theorem dL_law_825 : decode cL_law 825 = .ok (.ireturn, 1) := by decide +kernel
theorem dL_law_826 : decode cL_law 826 = .ok (.aload_n 1, 1) := by decide +kernel
theorem dL_law_827 : decode cL_law 827 = .ok (.aload_n 0, 1) := by decide +kernel
theorem dL_law_828 : decode cL_law 828 = .ok (.iload_n 3, 1) := by decide +kernel
theorem dL_law_829 : decode cL_law 829 = .ok (.iconst 1, 1) := by decide +kernel
theorem dL_law_830 : decode cL_law 830 = .ok (.iadd, 1) := by decide +kernel
theorem dL_law_831 : decode cL_law 831 = .ok (.iaload, 1) := by decide +kernel
theorem dL_law_832 : decode cL_law 832 = .ok (.invokevirtual 111, 3) := by decide +kernel
theorem dL_law_835 : decode cL_law 835 = .ok (.aload_n 2, 1) := by decide +kernel
theorem dL_law_836 : decode cL_law 836 = .ok (.aload_n 0, 1) := by decide +kernel
theorem dL_law_837 : decode cL_law 837 = .ok (.iload_n 3, 1) := by decide +kernel
theorem dL_law_838 : decode cL_law 838 = .ok (.iconst 1, 1) := by decide +kernel
theorem dL_law_839 : decode cL_law 839 = .ok (.iadd, 1) := by decide +kernel
theorem dL_law_840 : decode cL_law 840 = .ok (.iaload, 1) := by decide +kernel
theorem dL_law_841 : decode cL_law 841 = .ok (.invokevirtual 114, 3) := by decide +kernel
theorem dL_law_844 : decode cL_law 844 = .ok (.if_icmp .eq 54, 3) := by decide +kernel
theorem dL_law_847 : decode cL_law 847 = .ok (.iconst 0, 1) := by decide +kernel
theorem dL_law_848 : decode cL_law 848 = .ok (.ireturn, 1) := by decide +kernel
theorem dL_law_849 : decode cL_law 849 = .ok (.aload_n 1, 1) := by decide +kernel
theorem dL_law_850 : decode cL_law 850 = .ok (.invokevirtual 115, 3) := by decide +kernel
theorem dL_law_853 : decode cL_law 853 = .ok (.aload_n 2, 1) := by decide +kernel
theorem dL_law_854 : decode cL_law 854 = .ok (.invokevirtual 118, 3) := by decide +kernel
theorem dL_law_857 : decode cL_law 857 = .ok (.if_icmp .eq 41, 3) := by decide +kernel
theorem dL_law_860 : decode cL_law 860 = .ok (.iconst 0, 1) := by decide +kernel
theorem dL_law_861 : decode cL_law 861 = .ok (.ireturn, 1) := by decide +kernel
theorem dL_law_862 : decode cL_law 862 = .ok (.aload_n 1, 1) := by decide +kernel
theorem dL_law_863 : decode cL_law 863 = .ok (.aload_n 0, 1) := by decide +kernel
theorem dL_law_864 : decode cL_law 864 = .ok (.iload_n 3, 1) := by decide +kernel
theorem dL_law_865 : decode cL_law 865 = .ok (.iconst 1, 1) := by decide +kernel
theorem dL_law_866 : decode cL_law 866 = .ok (.iadd, 1) := by decide +kernel
theorem dL_law_867 : decode cL_law 867 = .ok (.iaload, 1) := by decide +kernel
theorem dL_law_868 : decode cL_law 868 = .ok (.invokevirtual 119, 3) := by decide +kernel
theorem dL_law_871 : decode cL_law 871 = .ok (.aload_n 2, 1) := by decide +kernel
theorem dL_law_872 : decode cL_law 872 = .ok (.aload_n 0, 1) := by decide +kernel
theorem dL_law_873 : decode cL_law 873 = .ok (.iload_n 3, 1) := by decide +kernel
theorem dL_law_874 : decode cL_law 874 = .ok (.iconst 1, 1) := by decide +kernel
theorem dL_law_875 : decode cL_law 875 = .ok (.iadd, 1) := by decide +kernel
theorem dL_law_876 : decode cL_law 876 = .ok (.iaload, 1) := by decide +kernel
theorem dL_law_877 : decode cL_law 877 = .ok (.invokevirtual 122, 3) := by decide +kernel
theorem dL_law_880 : decode cL_law 880 = .ok (.if_icmp .eq 18, 3) := by decide +kernel
theorem dL_law_883 : decode cL_law 883 = .ok (.iconst 0, 1) := by decide +kernel
theorem dL_law_884 : decode cL_law 884 = .ok (.ireturn, 1) := by decide +kernel
theorem dL_law_885 : decode cL_law 885 = .ok (.aload_n 1, 1) := by decide +kernel
theorem dL_law_886 : decode cL_law 886 = .ok (.invokevirtual 123, 3) := by decide +kernel
theorem dL_law_889 : decode cL_law 889 = .ok (.aload_n 2, 1) := by decide +kernel
theorem dL_law_890 : decode cL_law 890 = .ok (.invokevirtual 126, 3) := by decide +kernel
theorem dL_law_893 : decode cL_law 893 = .ok (.if_icmp .eq 5, 3) := by decide +kernel
theorem dL_law_896 : decode cL_law 896 = .ok (.iconst 0, 1) := by decide +kernel
theorem dL_law_897 : decode cL_law 897 = .ok (.ireturn, 1) := by decide +kernel
theorem dL_law_898 : decode cL_law 898 = .ok (.iinc 3 5, 3) := by decide +kernel
theorem dL_law_901 : decode cL_law 901 = .ok (.goto (-883), 3) := by decide +kernel
theorem dL_law_904 : decode cL_law 904 = .ok (.iconst 1, 1) := by decide +kernel
theorem dL_law_905 : decode cL_law 905 = .ok (.ireturn, 1) := by decide +kernel
end
section
def tb : List Cond := lw_tbl.filter goodWord
theorem mw {w : Cond} (i : Nat) (h : lw_tbl[i]? = some w) (g : goodWord w = true) : w ∈ tb := List.mem_filter.mpr ⟨List.mem_of_getElem? h, g⟩
abbrev Mm : Type := (Nat → Nat → Int32) × (Nat → Nat → Int64)
/-- a field: a whole number (none), a long one (some none), a reference to a cell (some (some cell)) -/
abbrev Fs : Type := Option (Option Nat)
/-- a cell: an object (its class' kind, its fields), or a row (of ints 0, longs 1, chars 2; its length) -/
abbrev Sh : Type := (Nat × List Fs) ⊕ (Nat × Nat)
def nestL : List (String × Nat × MethodName × String) := [(RX10, 9, yX6_init, "PollMeshes"), (RX6, 11, yX7_init, "PollMeshes"), (RX6, 20, yX0_init, "PollMeshes"), (RX6, 27, yX1_init, "PollMeshes"), (RX6, 34, yX4_init, "PollMeshes"), (RX10, 22, yX2_init, "PollMeshes"), (RX2, 11, yX6_init, "PollMeshes"), (RX10, 36, yX8_init, "PollMeshes"), (RX8, 17, yX7_init, "PollMeshes"), (RX10, 43, yX9_init, "PollMeshes"), (RX10, 50, yX3_init, "PollMeshes"), (RX10, 57, yX5_init, "PollMeshes"), (RX6, 75, yX10_within, "PollMeshes"), (RX7, 28, yX10_closeGap, "PollMeshes"), (RX0, 24, yX10_within, "PollMeshes"), (RX1, 36, yX10_closeGap, "PollMeshes"), (RX8, 49, yX10_within, "PollMeshes")]
theorem nw_0 : Cond.methodLinkNest RX10 9 yX6_init "PollMeshes" ∈ lw_tbl := List.mem_of_getElem? (i := 81) (by decide +kernel)
theorem nw_1 : Cond.methodLinkNest RX6 11 yX7_init "PollMeshes" ∈ lw_tbl := List.mem_of_getElem? (i := 87) (by decide +kernel)
theorem nw_2 : Cond.methodLinkNest RX6 20 yX0_init "PollMeshes" ∈ lw_tbl := List.mem_of_getElem? (i := 109) (by decide +kernel)
theorem nw_3 : Cond.methodLinkNest RX6 27 yX1_init "PollMeshes" ∈ lw_tbl := List.mem_of_getElem? (i := 124) (by decide +kernel)
theorem nw_4 : Cond.methodLinkNest RX6 34 yX4_init "PollMeshes" ∈ lw_tbl := List.mem_of_getElem? (i := 149) (by decide +kernel)
theorem nw_5 : Cond.methodLinkNest RX10 22 yX2_init "PollMeshes" ∈ lw_tbl := List.mem_of_getElem? (i := 263) (by decide +kernel)
theorem nw_6 : Cond.methodLinkNest RX2 11 yX6_init "PollMeshes" ∈ lw_tbl := List.mem_of_getElem? (i := 268) (by decide +kernel)
theorem nw_7 : Cond.methodLinkNest RX10 36 yX8_init "PollMeshes" ∈ lw_tbl := List.mem_of_getElem? (i := 288) (by decide +kernel)
theorem nw_8 : Cond.methodLinkNest RX8 17 yX7_init "PollMeshes" ∈ lw_tbl := List.mem_of_getElem? (i := 293) (by decide +kernel)
theorem nw_9 : Cond.methodLinkNest RX10 43 yX9_init "PollMeshes" ∈ lw_tbl := List.mem_of_getElem? (i := 331) (by decide +kernel)
theorem nw_10 : Cond.methodLinkNest RX10 50 yX3_init "PollMeshes" ∈ lw_tbl := List.mem_of_getElem? (i := 360) (by decide +kernel)
theorem nw_11 : Cond.methodLinkNest RX10 57 yX5_init "PollMeshes" ∈ lw_tbl := List.mem_of_getElem? (i := 374) (by decide +kernel)
theorem nw_12 : Cond.methodLinkNest RX6 75 yX10_within "PollMeshes" ∈ lw_tbl := List.mem_of_getElem? (i := 462) (by decide +kernel)
theorem nw_13 : Cond.methodLinkNest RX7 28 yX10_closeGap "PollMeshes" ∈ lw_tbl := List.mem_of_getElem? (i := 477) (by decide +kernel)
theorem nw_14 : Cond.methodLinkNest RX0 24 yX10_within "PollMeshes" ∈ lw_tbl := List.mem_of_getElem? (i := 496) (by decide +kernel)
theorem nw_15 : Cond.methodLinkNest RX1 36 yX10_closeGap "PollMeshes" ∈ lw_tbl := List.mem_of_getElem? (i := 517) (by decide +kernel)
theorem nw_16 : Cond.methodLinkNest RX8 49 yX10_within "PollMeshes" ∈ lw_tbl := List.mem_of_getElem? (i := 733) (by decide +kernel)
def shTab : List Sh := [.inl (10, [some (some 1), some (some 14), some (some 67), none, some (some 80), some (some 86), some (some 90), some (some 92)]), .inl (6, [none, none, none, some (some 2), some (some 5), some (some 8), some (some 11)]), .inl (7, [none, some (some 3), some (some 4)]), .inr (0, 10), .inr (0, 30), .inl (0, [some (some 6), some (some 7)]), .inr (0, 3), .inr (0, 3), .inl (1, [none, some (some 9), some (some 10)]), .inr (0, 24), .inr (0, 8), .inl (4, [some (some 12), none, none, none, none, none, none, some (some 13), none]), .inr (0, 3), .inr (0, 18), .inl (2, [none, some (some 15), some (some 28), some (some 41), some (some 54)]), .inl (6, [none, none, none, some (some 16), some (some 19), some (some 22), some (some 25)]), .inl (7, [none, some (some 17), some (some 18)]), .inr (0, 10), .inr (0, 30), .inl (0, [some (some 20), some (some 21)]), .inr (0, 3), .inr (0, 3), .inl (1, [none, some (some 23), some (some 24)]), .inr (0, 24), .inr (0, 8), .inl (4, [some (some 26), none, none, none, none, none, none, some (some 27), none]), .inr (0, 3), .inr (0, 18), .inl (6, [none, none, none, some (some 29), some (some 32), some (some 35), some (some 38)]), .inl (7, [none, some (some 30), some (some 31)]), .inr (0, 10), .inr (0, 30), .inl (0, [some (some 33), some (some 34)]), .inr (0, 3), .inr (0, 3), .inl (1, [none, some (some 36), some (some 37)]), .inr (0, 24), .inr (0, 8), .inl (4, [some (some 39), none, none, none, none, none, none, some (some 40), none]), .inr (0, 3), .inr (0, 18), .inl (6, [none, none, none, some (some 42), some (some 45), some (some 48), some (some 51)]), .inl (7, [none, some (some 43), some (some 44)]), .inr (0, 10), .inr (0, 30), .inl (0, [some (some 46), some (some 47)]), .inr (0, 3), .inr (0, 3), .inl (1, [none, some (some 49), some (some 50)]), .inr (0, 24), .inr (0, 8), .inl (4, [some (some 52), none, none, none, none, none, none, some (some 53), none]), .inr (0, 3), .inr (0, 18), .inl (6, [none, none, none, some (some 55), some (some 58), some (some 61), some (some 64)]), .inl (7, [none, some (some 56), some (some 57)]), .inr (0, 10), .inr (0, 30), .inl (0, [some (some 59), some (some 60)]), .inr (0, 3), .inr (0, 3), .inl (1, [none, some (some 62), some (some 63)]), .inr (0, 24), .inr (0, 8), .inl (4, [some (some 65), none, none, none, none, none, none, some (some 66), none]), .inr (0, 3), .inr (0, 18), .inl (6, [none, none, none, some (some 68), some (some 71), some (some 74), some (some 77)]), .inl (7, [none, some (some 69), some (some 70)]), .inr (0, 10), .inr (0, 30), .inl (0, [some (some 72), some (some 73)]), .inr (0, 3), .inr (0, 3), .inl (1, [none, some (some 75), some (some 76)]), .inr (0, 24), .inr (0, 8), .inl (4, [some (some 78), none, none, none, none, none, none, some (some 79), none]), .inr (0, 3), .inr (0, 18), .inl (8, [none, some (some 81), some (some 82), none, none, none, none, none, none, some (some 85)]), .inr (0, 60), .inl (7, [none, some (some 83), some (some 84)]), .inr (0, 10), .inr (0, 30), .inr (0, 3), .inl (9, [none, some (some 87), some (some 88), some (some 89), some none, none]), .inr (0, 8), .inr (1, 8), .inr (1, 8), .inl (3, [some (some 91), some none]), .inr (0, 3), .inl (5, [none, some (some 93), some (some 94)]), .inr (0, 42), .inr (0, 3), .inl (11, [some (some 96), some (some 97), some (some 98), none, none, some (some 99), none, some (some 100), none, some (some 101), some (some 102), none, none, none, none]), .inr (0, 111), .inr (0, 444), .inr (0, 111), .inr (2, 60), .inr (0, 8), .inr (0, 3), .inr (0, 40)]
def shp (c : Nat) : Sh := shTab.getD c (.inr (0, 0))
theorem sh_0 : shp 0 = .inl (10, [some (some 1), some (some 14), some (some 67), none, some (some 80), some (some 86), some (some 90), some (some 92)]) := rfl
theorem sh_1 : shp 1 = .inl (6, [none, none, none, some (some 2), some (some 5), some (some 8), some (some 11)]) := rfl
theorem sh_2 : shp 2 = .inl (7, [none, some (some 3), some (some 4)]) := rfl
theorem sh_3 : shp 3 = .inr (0, 10) := rfl
theorem sh_4 : shp 4 = .inr (0, 30) := rfl
theorem sh_5 : shp 5 = .inl (0, [some (some 6), some (some 7)]) := rfl
theorem sh_6 : shp 6 = .inr (0, 3) := rfl
theorem sh_7 : shp 7 = .inr (0, 3) := rfl
theorem sh_8 : shp 8 = .inl (1, [none, some (some 9), some (some 10)]) := rfl
theorem sh_9 : shp 9 = .inr (0, 24) := rfl
theorem sh_10 : shp 10 = .inr (0, 8) := rfl
theorem sh_11 : shp 11 = .inl (4, [some (some 12), none, none, none, none, none, none, some (some 13), none]) := rfl
theorem sh_12 : shp 12 = .inr (0, 3) := rfl
theorem sh_13 : shp 13 = .inr (0, 18) := rfl
theorem sh_14 : shp 14 = .inl (2, [none, some (some 15), some (some 28), some (some 41), some (some 54)]) := rfl
theorem sh_15 : shp 15 = .inl (6, [none, none, none, some (some 16), some (some 19), some (some 22), some (some 25)]) := rfl
theorem sh_16 : shp 16 = .inl (7, [none, some (some 17), some (some 18)]) := rfl
theorem sh_17 : shp 17 = .inr (0, 10) := rfl
theorem sh_18 : shp 18 = .inr (0, 30) := rfl
theorem sh_19 : shp 19 = .inl (0, [some (some 20), some (some 21)]) := rfl
theorem sh_20 : shp 20 = .inr (0, 3) := rfl
theorem sh_21 : shp 21 = .inr (0, 3) := rfl
theorem sh_22 : shp 22 = .inl (1, [none, some (some 23), some (some 24)]) := rfl
theorem sh_23 : shp 23 = .inr (0, 24) := rfl
theorem sh_24 : shp 24 = .inr (0, 8) := rfl
theorem sh_25 : shp 25 = .inl (4, [some (some 26), none, none, none, none, none, none, some (some 27), none]) := rfl
theorem sh_26 : shp 26 = .inr (0, 3) := rfl
theorem sh_27 : shp 27 = .inr (0, 18) := rfl
theorem sh_28 : shp 28 = .inl (6, [none, none, none, some (some 29), some (some 32), some (some 35), some (some 38)]) := rfl
theorem sh_29 : shp 29 = .inl (7, [none, some (some 30), some (some 31)]) := rfl
theorem sh_30 : shp 30 = .inr (0, 10) := rfl
theorem sh_31 : shp 31 = .inr (0, 30) := rfl
theorem sh_32 : shp 32 = .inl (0, [some (some 33), some (some 34)]) := rfl
theorem sh_33 : shp 33 = .inr (0, 3) := rfl
theorem sh_34 : shp 34 = .inr (0, 3) := rfl
theorem sh_35 : shp 35 = .inl (1, [none, some (some 36), some (some 37)]) := rfl
theorem sh_36 : shp 36 = .inr (0, 24) := rfl
theorem sh_37 : shp 37 = .inr (0, 8) := rfl
theorem sh_38 : shp 38 = .inl (4, [some (some 39), none, none, none, none, none, none, some (some 40), none]) := rfl
theorem sh_39 : shp 39 = .inr (0, 3) := rfl
theorem sh_40 : shp 40 = .inr (0, 18) := rfl
theorem sh_41 : shp 41 = .inl (6, [none, none, none, some (some 42), some (some 45), some (some 48), some (some 51)]) := rfl
theorem sh_42 : shp 42 = .inl (7, [none, some (some 43), some (some 44)]) := rfl
theorem sh_43 : shp 43 = .inr (0, 10) := rfl
theorem sh_44 : shp 44 = .inr (0, 30) := rfl
theorem sh_45 : shp 45 = .inl (0, [some (some 46), some (some 47)]) := rfl
theorem sh_46 : shp 46 = .inr (0, 3) := rfl
theorem sh_47 : shp 47 = .inr (0, 3) := rfl
theorem sh_48 : shp 48 = .inl (1, [none, some (some 49), some (some 50)]) := rfl
theorem sh_49 : shp 49 = .inr (0, 24) := rfl
theorem sh_50 : shp 50 = .inr (0, 8) := rfl
theorem sh_51 : shp 51 = .inl (4, [some (some 52), none, none, none, none, none, none, some (some 53), none]) := rfl
theorem sh_52 : shp 52 = .inr (0, 3) := rfl
theorem sh_53 : shp 53 = .inr (0, 18) := rfl
theorem sh_54 : shp 54 = .inl (6, [none, none, none, some (some 55), some (some 58), some (some 61), some (some 64)]) := rfl
theorem sh_55 : shp 55 = .inl (7, [none, some (some 56), some (some 57)]) := rfl
theorem sh_56 : shp 56 = .inr (0, 10) := rfl
theorem sh_57 : shp 57 = .inr (0, 30) := rfl
theorem sh_58 : shp 58 = .inl (0, [some (some 59), some (some 60)]) := rfl
theorem sh_59 : shp 59 = .inr (0, 3) := rfl
theorem sh_60 : shp 60 = .inr (0, 3) := rfl
theorem sh_61 : shp 61 = .inl (1, [none, some (some 62), some (some 63)]) := rfl
theorem sh_62 : shp 62 = .inr (0, 24) := rfl
theorem sh_63 : shp 63 = .inr (0, 8) := rfl
theorem sh_64 : shp 64 = .inl (4, [some (some 65), none, none, none, none, none, none, some (some 66), none]) := rfl
theorem sh_65 : shp 65 = .inr (0, 3) := rfl
theorem sh_66 : shp 66 = .inr (0, 18) := rfl
theorem sh_67 : shp 67 = .inl (6, [none, none, none, some (some 68), some (some 71), some (some 74), some (some 77)]) := rfl
theorem sh_68 : shp 68 = .inl (7, [none, some (some 69), some (some 70)]) := rfl
theorem sh_69 : shp 69 = .inr (0, 10) := rfl
theorem sh_70 : shp 70 = .inr (0, 30) := rfl
theorem sh_71 : shp 71 = .inl (0, [some (some 72), some (some 73)]) := rfl
theorem sh_72 : shp 72 = .inr (0, 3) := rfl
theorem sh_73 : shp 73 = .inr (0, 3) := rfl
theorem sh_74 : shp 74 = .inl (1, [none, some (some 75), some (some 76)]) := rfl
theorem sh_75 : shp 75 = .inr (0, 24) := rfl
theorem sh_76 : shp 76 = .inr (0, 8) := rfl
theorem sh_77 : shp 77 = .inl (4, [some (some 78), none, none, none, none, none, none, some (some 79), none]) := rfl
theorem sh_78 : shp 78 = .inr (0, 3) := rfl
theorem sh_79 : shp 79 = .inr (0, 18) := rfl
theorem sh_80 : shp 80 = .inl (8, [none, some (some 81), some (some 82), none, none, none, none, none, none, some (some 85)]) := rfl
theorem sh_81 : shp 81 = .inr (0, 60) := rfl
theorem sh_82 : shp 82 = .inl (7, [none, some (some 83), some (some 84)]) := rfl
theorem sh_83 : shp 83 = .inr (0, 10) := rfl
theorem sh_84 : shp 84 = .inr (0, 30) := rfl
theorem sh_85 : shp 85 = .inr (0, 3) := rfl
theorem sh_86 : shp 86 = .inl (9, [none, some (some 87), some (some 88), some (some 89), some none, none]) := rfl
theorem sh_87 : shp 87 = .inr (0, 8) := rfl
theorem sh_88 : shp 88 = .inr (1, 8) := rfl
theorem sh_89 : shp 89 = .inr (1, 8) := rfl
theorem sh_90 : shp 90 = .inl (3, [some (some 91), some none]) := rfl
theorem sh_91 : shp 91 = .inr (0, 3) := rfl
theorem sh_92 : shp 92 = .inl (5, [none, some (some 93), some (some 94)]) := rfl
theorem sh_93 : shp 93 = .inr (0, 42) := rfl
theorem sh_94 : shp 94 = .inr (0, 3) := rfl
theorem sh_95 : shp 95 = .inl (11, [some (some 96), some (some 97), some (some 98), none, none, some (some 99), none, some (some 100), none, some (some 101), some (some 102), none, none, none, none]) := rfl
theorem sh_96 : shp 96 = .inr (0, 111) := rfl
theorem sh_97 : shp 97 = .inr (0, 444) := rfl
theorem sh_98 : shp 98 = .inr (0, 111) := rfl
theorem sh_99 : shp 99 = .inr (2, 60) := rfl
theorem sh_100 : shp 100 = .inr (0, 8) := rfl
theorem sh_101 : shp 101 = .inr (0, 3) := rfl
theorem sh_102 : shp 102 = .inr (0, 40) := rfl
def ly7 (c : Nat) : Prop := shp c = .inl (7, [none, some (some (c + 1)), some (some (c + 2))]) ∧ shp (c + 1) = .inr (0, 10) ∧ shp (c + 2) = .inr (0, 30)
def ly0 (c : Nat) : Prop := shp c = .inl (0, [some (some (c + 1)), some (some (c + 2))]) ∧ shp (c + 1) = .inr (0, 3) ∧ shp (c + 2) = .inr (0, 3)
def ly1 (c : Nat) : Prop := shp c = .inl (1, [none, some (some (c + 1)), some (some (c + 2))]) ∧ shp (c + 1) = .inr (0, 24) ∧ shp (c + 2) = .inr (0, 8)
def ly4 (c : Nat) : Prop := shp c = .inl (4, [some (some (c + 1)), none, none, none, none, none, none, some (some (c + 2)), none]) ∧ shp (c + 1) = .inr (0, 3) ∧ shp (c + 2) = .inr (0, 18)
def ly6 (c : Nat) : Prop := shp c = .inl (6, [none, none, none, some (some (c + 1)), some (some (c + 4)), some (some (c + 7)), some (some (c + 10))]) ∧ ly7 (c + 1) ∧ ly0 (c + 4) ∧ ly1 (c + 7) ∧ ly4 (c + 10)
theorem lyat_82 : ly7 82 := ⟨sh_82, sh_83, sh_84⟩
theorem lyat_77 : ly4 77 := ⟨sh_77, sh_78, sh_79⟩
theorem lyat_74 : ly1 74 := ⟨sh_74, sh_75, sh_76⟩
theorem lyat_71 : ly0 71 := ⟨sh_71, sh_72, sh_73⟩
theorem lyat_68 : ly7 68 := ⟨sh_68, sh_69, sh_70⟩
theorem lyat_67 : ly6 67 := ⟨sh_67, lyat_68, lyat_71, lyat_74, lyat_77⟩
theorem lyat_64 : ly4 64 := ⟨sh_64, sh_65, sh_66⟩
theorem lyat_61 : ly1 61 := ⟨sh_61, sh_62, sh_63⟩
theorem lyat_58 : ly0 58 := ⟨sh_58, sh_59, sh_60⟩
theorem lyat_55 : ly7 55 := ⟨sh_55, sh_56, sh_57⟩
theorem lyat_54 : ly6 54 := ⟨sh_54, lyat_55, lyat_58, lyat_61, lyat_64⟩
theorem lyat_51 : ly4 51 := ⟨sh_51, sh_52, sh_53⟩
theorem lyat_48 : ly1 48 := ⟨sh_48, sh_49, sh_50⟩
theorem lyat_45 : ly0 45 := ⟨sh_45, sh_46, sh_47⟩
theorem lyat_42 : ly7 42 := ⟨sh_42, sh_43, sh_44⟩
theorem lyat_41 : ly6 41 := ⟨sh_41, lyat_42, lyat_45, lyat_48, lyat_51⟩
theorem lyat_38 : ly4 38 := ⟨sh_38, sh_39, sh_40⟩
theorem lyat_35 : ly1 35 := ⟨sh_35, sh_36, sh_37⟩
theorem lyat_32 : ly0 32 := ⟨sh_32, sh_33, sh_34⟩
theorem lyat_29 : ly7 29 := ⟨sh_29, sh_30, sh_31⟩
theorem lyat_28 : ly6 28 := ⟨sh_28, lyat_29, lyat_32, lyat_35, lyat_38⟩
theorem lyat_25 : ly4 25 := ⟨sh_25, sh_26, sh_27⟩
theorem lyat_22 : ly1 22 := ⟨sh_22, sh_23, sh_24⟩
theorem lyat_19 : ly0 19 := ⟨sh_19, sh_20, sh_21⟩
theorem lyat_16 : ly7 16 := ⟨sh_16, sh_17, sh_18⟩
theorem lyat_15 : ly6 15 := ⟨sh_15, lyat_16, lyat_19, lyat_22, lyat_25⟩
theorem lyat_11 : ly4 11 := ⟨sh_11, sh_12, sh_13⟩
theorem lyat_8 : ly1 8 := ⟨sh_8, sh_9, sh_10⟩
theorem lyat_5 : ly0 5 := ⟨sh_5, sh_6, sh_7⟩
theorem lyat_2 : ly7 2 := ⟨sh_2, sh_3, sh_4⟩
theorem lyat_1 : ly6 1 := ⟨sh_1, lyat_2, lyat_5, lyat_8, lyat_11⟩
theorem uw_0 : ∀ w ∈ u_ws RX0 TX0 2, w ∈ tb := (List.forall_mem_cons.mpr ⟨(mw 117 (by decide +kernel) (by decide +kernel)), (List.forall_mem_cons.mpr ⟨(mw 119 (by decide +kernel) (by decide +kernel)), (fun _ h => absurd h List.not_mem_nil)⟩)⟩)
theorem uw_1 : ∀ w ∈ u_ws RX1 TX1 3, w ∈ tb := (List.forall_mem_cons.mpr ⟨(mw 140 (by decide +kernel) (by decide +kernel)), (List.forall_mem_cons.mpr ⟨(mw 142 (by decide +kernel) (by decide +kernel)), (List.forall_mem_cons.mpr ⟨(mw 144 (by decide +kernel) (by decide +kernel)), (fun _ h => absurd h List.not_mem_nil)⟩)⟩)⟩)
theorem uw_2 : ∀ w ∈ u_ws RX2 TX2 5, w ∈ tb := (List.forall_mem_cons.mpr ⟨(mw 275 (by decide +kernel) (by decide +kernel)), (List.forall_mem_cons.mpr ⟨(mw 277 (by decide +kernel) (by decide +kernel)), (List.forall_mem_cons.mpr ⟨(mw 279 (by decide +kernel) (by decide +kernel)), (List.forall_mem_cons.mpr ⟨(mw 281 (by decide +kernel) (by decide +kernel)), (List.forall_mem_cons.mpr ⟨(mw 283 (by decide +kernel) (by decide +kernel)), (fun _ h => absurd h List.not_mem_nil)⟩)⟩)⟩)⟩)⟩)
theorem uw_3 : ∀ w ∈ u_ws RX3 TX3 2, w ∈ tb := (List.forall_mem_cons.mpr ⟨(mw 367 (by decide +kernel) (by decide +kernel)), (List.forall_mem_cons.mpr ⟨(mw 369 (by decide +kernel) (by decide +kernel)), (fun _ h => absurd h List.not_mem_nil)⟩)⟩)
theorem uw_4 : ∀ w ∈ u_ws RX4 TX4 9, w ∈ tb := (List.forall_mem_cons.mpr ⟨(mw 178 (by decide +kernel) (by decide +kernel)), (List.forall_mem_cons.mpr ⟨(mw 180 (by decide +kernel) (by decide +kernel)), (List.forall_mem_cons.mpr ⟨(mw 182 (by decide +kernel) (by decide +kernel)), (List.forall_mem_cons.mpr ⟨(mw 184 (by decide +kernel) (by decide +kernel)), (List.forall_mem_cons.mpr ⟨(mw 186 (by decide +kernel) (by decide +kernel)), (List.forall_mem_cons.mpr ⟨(mw 188 (by decide +kernel) (by decide +kernel)), (List.forall_mem_cons.mpr ⟨(mw 190 (by decide +kernel) (by decide +kernel)), (List.forall_mem_cons.mpr ⟨(mw 192 (by decide +kernel) (by decide +kernel)), (List.forall_mem_cons.mpr ⟨(mw 194 (by decide +kernel) (by decide +kernel)), (fun _ h => absurd h List.not_mem_nil)⟩)⟩)⟩)⟩)⟩)⟩)⟩)⟩)⟩)
theorem uw_5 : ∀ w ∈ u_ws RX5 TX5 3, w ∈ tb := (List.forall_mem_cons.mpr ⟨(mw 381 (by decide +kernel) (by decide +kernel)), (List.forall_mem_cons.mpr ⟨(mw 383 (by decide +kernel) (by decide +kernel)), (List.forall_mem_cons.mpr ⟨(mw 385 (by decide +kernel) (by decide +kernel)), (fun _ h => absurd h List.not_mem_nil)⟩)⟩)⟩)
theorem uw_6 : ∀ w ∈ u_ws RX6 TX6 7, w ∈ tb := (List.forall_mem_cons.mpr ⟨(mw 218 (by decide +kernel) (by decide +kernel)), (List.forall_mem_cons.mpr ⟨(mw 220 (by decide +kernel) (by decide +kernel)), (List.forall_mem_cons.mpr ⟨(mw 222 (by decide +kernel) (by decide +kernel)), (List.forall_mem_cons.mpr ⟨(mw 224 (by decide +kernel) (by decide +kernel)), (List.forall_mem_cons.mpr ⟨(mw 226 (by decide +kernel) (by decide +kernel)), (List.forall_mem_cons.mpr ⟨(mw 228 (by decide +kernel) (by decide +kernel)), (List.forall_mem_cons.mpr ⟨(mw 230 (by decide +kernel) (by decide +kernel)), (fun _ h => absurd h List.not_mem_nil)⟩)⟩)⟩)⟩)⟩)⟩)⟩)
theorem uw_7 : ∀ w ∈ u_ws RX7 TX7 3, w ∈ tb := (List.forall_mem_cons.mpr ⟨(mw 99 (by decide +kernel) (by decide +kernel)), (List.forall_mem_cons.mpr ⟨(mw 101 (by decide +kernel) (by decide +kernel)), (List.forall_mem_cons.mpr ⟨(mw 103 (by decide +kernel) (by decide +kernel)), (fun _ h => absurd h List.not_mem_nil)⟩)⟩)⟩)
theorem uw_8 : ∀ w ∈ u_ws RX8 TX8 10, w ∈ tb := (List.forall_mem_cons.mpr ⟨(mw 308 (by decide +kernel) (by decide +kernel)), (List.forall_mem_cons.mpr ⟨(mw 310 (by decide +kernel) (by decide +kernel)), (List.forall_mem_cons.mpr ⟨(mw 312 (by decide +kernel) (by decide +kernel)), (List.forall_mem_cons.mpr ⟨(mw 314 (by decide +kernel) (by decide +kernel)), (List.forall_mem_cons.mpr ⟨(mw 316 (by decide +kernel) (by decide +kernel)), (List.forall_mem_cons.mpr ⟨(mw 318 (by decide +kernel) (by decide +kernel)), (List.forall_mem_cons.mpr ⟨(mw 320 (by decide +kernel) (by decide +kernel)), (List.forall_mem_cons.mpr ⟨(mw 322 (by decide +kernel) (by decide +kernel)), (List.forall_mem_cons.mpr ⟨(mw 324 (by decide +kernel) (by decide +kernel)), (List.forall_mem_cons.mpr ⟨(mw 326 (by decide +kernel) (by decide +kernel)), (fun _ h => absurd h List.not_mem_nil)⟩)⟩)⟩)⟩)⟩)⟩)⟩)⟩)⟩)⟩)
theorem uw_9 : ∀ w ∈ u_ws RX9 TX9 6, w ∈ tb := (List.forall_mem_cons.mpr ⟨(mw 344 (by decide +kernel) (by decide +kernel)), (List.forall_mem_cons.mpr ⟨(mw 346 (by decide +kernel) (by decide +kernel)), (List.forall_mem_cons.mpr ⟨(mw 348 (by decide +kernel) (by decide +kernel)), (List.forall_mem_cons.mpr ⟨(mw 350 (by decide +kernel) (by decide +kernel)), (List.forall_mem_cons.mpr ⟨(mw 352 (by decide +kernel) (by decide +kernel)), (List.forall_mem_cons.mpr ⟨(mw 354 (by decide +kernel) (by decide +kernel)), (fun _ h => absurd h List.not_mem_nil)⟩)⟩)⟩)⟩)⟩)⟩)
theorem uw_10 : ∀ w ∈ u_ws RX10 TX10 8, w ∈ tb := (List.forall_mem_cons.mpr ⟨(mw 396 (by decide +kernel) (by decide +kernel)), (List.forall_mem_cons.mpr ⟨(mw 398 (by decide +kernel) (by decide +kernel)), (List.forall_mem_cons.mpr ⟨(mw 400 (by decide +kernel) (by decide +kernel)), (List.forall_mem_cons.mpr ⟨(mw 402 (by decide +kernel) (by decide +kernel)), (List.forall_mem_cons.mpr ⟨(mw 404 (by decide +kernel) (by decide +kernel)), (List.forall_mem_cons.mpr ⟨(mw 406 (by decide +kernel) (by decide +kernel)), (List.forall_mem_cons.mpr ⟨(mw 408 (by decide +kernel) (by decide +kernel)), (List.forall_mem_cons.mpr ⟨(mw 410 (by decide +kernel) (by decide +kernel)), (fun _ h => absurd h List.not_mem_nil)⟩)⟩)⟩)⟩)⟩)⟩)⟩)⟩)
theorem uw_11 : ∀ w ∈ u_ws RX11 TX11 15, w ∈ tb := (List.forall_mem_cons.mpr ⟨(mw 793 (by decide +kernel) (by decide +kernel)), (List.forall_mem_cons.mpr ⟨(mw 795 (by decide +kernel) (by decide +kernel)), (List.forall_mem_cons.mpr ⟨(mw 797 (by decide +kernel) (by decide +kernel)), (List.forall_mem_cons.mpr ⟨(mw 799 (by decide +kernel) (by decide +kernel)), (List.forall_mem_cons.mpr ⟨(mw 801 (by decide +kernel) (by decide +kernel)), (List.forall_mem_cons.mpr ⟨(mw 803 (by decide +kernel) (by decide +kernel)), (List.forall_mem_cons.mpr ⟨(mw 805 (by decide +kernel) (by decide +kernel)), (List.forall_mem_cons.mpr ⟨(mw 807 (by decide +kernel) (by decide +kernel)), (List.forall_mem_cons.mpr ⟨(mw 809 (by decide +kernel) (by decide +kernel)), (List.forall_mem_cons.mpr ⟨(mw 811 (by decide +kernel) (by decide +kernel)), (List.forall_mem_cons.mpr ⟨(mw 813 (by decide +kernel) (by decide +kernel)), (List.forall_mem_cons.mpr ⟨(mw 815 (by decide +kernel) (by decide +kernel)), (List.forall_mem_cons.mpr ⟨(mw 817 (by decide +kernel) (by decide +kernel)), (List.forall_mem_cons.mpr ⟨(mw 819 (by decide +kernel) (by decide +kernel)), (List.forall_mem_cons.mpr ⟨(mw 821 (by decide +kernel) (by decide +kernel)), (fun _ h => absurd h List.not_mem_nil)⟩)⟩)⟩)⟩)⟩)⟩)⟩)⟩)⟩)⟩)⟩)⟩)⟩)⟩)⟩)
end
section
/-! ===== a world of numbered cells, and rows over it ===== -/
abbrev XT : Type := Program × Launch × Env × Room × State × MethodId × Array Value × List Frame × Method × Code × va_G × (ClassId × ClassId × ClassId) × (Nat → Prop) × Nat × Nat × (State → Prop)
def ix (i : Int32) : Nat := i.toNatClampNeg
def stI (M : Mm) (c j : Nat) (v : Int32) : Mm := (fun c' => if c' = c then upd (M.1 c) j v else M.1 c', M.2)
def stL (M : Mm) (c j : Nat) (v : Int64) : Mm := (M.1, fun c' => if c' = c then vp_updL (M.2 c) j v else M.2 c')
def cpI (M : Mm) (s sp d dp n : Nat) : Mm := (fun c' => if c' = d then va_cpy (M.1 s) (M.1 d) sp dp n else M.1 c', M.2)
def mfv (ad : Nat → Nat) (M : Mm) (c k : Nat) (f : Fs) : Value := match f with
  | none => .int (M.1 c k)
  | some none => .long (M.2 c k)
  | some (some t) => .ref (ad t)
def mfs (ad : Nat → Nat) (M : Mm) (c : Nat) : Nat → List Fs → List Value
  | _, [] => []
  | k, f :: fs => mfv ad M c k f :: mfs ad M c (k + 1) fs
def mcell (cy : ClassId × ClassId × ClassId) (ad : Nat → Nat) (M : Mm) (c : Nat) (sh : Sh) : va_E := match sh with
  | .inl (ci, fs) => .inr (ci, mfs ad M c 0 fs)
  | .inr (0, n) => .inl (cy.1, n, .inl (M.1 c))
  | .inr (1, n) => .inl (cy.2.1, n, .inr (.inl (M.2 c)))
  | .inr (_, n) => .inl (cy.2.2, n, .inl (M.1 c))
def wl (cy : ClassId × ClassId × ClassId) (ad : Nat → Nat) (cs : List Nat) (M : Mm) : va_W := cs.map (fun c => (ad c, mcell cy ad M c (shp c)))
def dj (A : Nat → Prop) (ad : Nat → Nat) (cs : List Nat) : Prop := (∀ (i j a b : Nat), cs[i]? = some a → cs[j]? = some b → ad a = ad b → i = j) ∧ ∀ c ∈ cs, A (ad c)
def Ad (ad : Nat → Nat) (cs : List Nat) : Nat → Prop := fun q => ∃ c ∈ cs, q = ad c
def nst (U : State) : Prop := ∀ q ∈ nestL, va_Nw (.methodLinkNest q.1 q.2.1 q.2.2.1 q.2.2.2) U
abbrev tys3 (cy : ClassId × ClassId × ClassId) : List (ClassId × FieldType) := [(cy.1, .int), (cy.2.1, .long), (cy.2.2, .char)]
def KK (D : va_G) (cy : ClassId × ClassId × ClassId) (U : State) : Prop := va_K D vwCl (tys3 cy) U ∧ nst U
theorem KK.warm {D : va_G} {cy : ClassId × ClassId × ClassId} {s U : State} (h : KK D cy s) (hW : s.WarmedH U.vm) : KK D cy U := ⟨va_K.moved hW.alike h.1, fun q hq => va_Nw.warmM hW (h.2 q hq)⟩
theorem KK.same {D : va_G} {cy : ClassId × ClassId × ClassId} {s U : State} (h : KK D cy s) (hv : s.vm = U.vm) : KK D cy U := ⟨va_K.moved (hv ▸ Vm.Alike.refl s.vm) h.1, fun q hq => va_Nw.same rfl hv (h.2 q hq)⟩
def mQ (D : va_G) (cy : ClassId × ClassId × ClassId) (ad : Nat → Nat) (cs : List Nat) (r : Option Value) (M' : Mm) (A : Nat → Prop) : Array Value → State → Outcome → State → Prop := fun _ st o t => (o = .returned r ∧ va_P D vwCl (wl cy ad cs M') t.heap) ∧ va_F A st t
def CT (ad : Nat → Nat) (cs : List Nat) (y : MethodName) (cc : ByteArray) (maxL : Nat) (ret : Option FieldType) (fr lo : Nat) (av : List Value) (M : Mm) (r : Option Value) (M' : Mm) : Prop :=
  ∀ (l : Launch) (D : va_G) (cy : ClassId × ClassId × ClassId), Met l y (.code y cc maxL ret :: tb) ({ frames := fr, cells := 0, slots := 0, locals := lo } : Room) (va_Pc av (fun U => va_P D vwCl (wl cy ad cs M) U.heap ∧ KK D cy U ∧ dj (fun _ => True) ad cs)) (mQ D cy ad cs r M' (Ad ad cs)) 0 0 (Ad ad cs)
def VV (X : XT) (nL : Nat) (ad : Nat → Nat) (cs : List Nat) (M : Mm) (pc : Nat) (lv : List (Nat × Value)) (st : List Value) : Prop := match X with
  | (p, l, e, R, s, m, args, below, meth, c, D, cy, A, kc, ks, Q) => ∀ (H : Heap) (locs : List Loc) (ls : Array Slot), va_P D vwCl (wl cy ad cs M) H → va_S A s.heap H locs → lv_has ls nL lv → W p l e R s m args below meth c H locs kc ks Q (F0 m pc ls st)
def XOK (X : XT) (nL : Nat) (ad : Nat → Nat) (cs : List Nat) (cc : ByteArray) (own : String) (fr lo : Nat) : Prop := match X with
  | (p, _, _, R, s, m, args, _, _, c, D, cy, A, kc, ks, _) => p.tables.exec = Jvm.exec ∧ c.code = cc ∧ c.maxLocals = nL ∧ s.vm.findClass own = some m.cls ∧ (∀ w ∈ tb, w.before args s = true) ∧ KK D cy s ∧ dj A ad cs ∧ fr ≤ R.frames ∧ lo ≤ R.locals ∧ kc ≤ R.cells ∧ ks ≤ R.slots
def XR (X : XT) (ad : Nat → Nat) (cs : List Nat) (ret : Option FieldType) (r : Option Value) (M' : Mm) : Prop := match X with
  | (_, _, _, _, s, _, args, below, meth, _, D, cy, A, kc, ks, Q) => Q = MQ below (mQ D cy ad cs r M' A) args s kc ks A ∧ meth.sig.returnType = ret ∧ meth.locks = false
theorem mfs_get (ad : Nat → Nat) (M : Mm) (c : Nat) : ∀ (fs : List Fs) (k j : Nat), (mfs ad M c k fs)[j]? = (fs[j]?).map (mfv ad M c (k + j))
  | [], k, j => by simp [mfs]
  | f :: fs, k, 0 => by simp [mfs]
  | f :: fs, k, j + 1 => by
    have h := mfs_get ad M c fs (k + 1) j
    simp only [mfs, List.getElem?_cons_succ, h]
    rw [show k + 1 + j = k + (j + 1) by omega]
theorem mfs_len (ad : Nat → Nat) (M : Mm) (c : Nat) : ∀ (fs : List Fs) (k : Nat), (mfs ad M c k fs).length = fs.length
  | [], k => rfl
  | f :: fs, k => by simp [mfs, mfs_len ad M c fs (k + 1)]
theorem stI_at (M : Mm) (c j : Nat) (v : Int32) : (stI M c j v).1 c = upd (M.1 c) j v := by simp [stI]
theorem stL_at (M : Mm) (c j : Nat) (v : Int64) : (stL M c j v).2 c = vp_updL (M.2 c) j v := by simp [stL]
theorem cpI_at (M : Mm) (s sp d dp n : Nat) : (cpI M s sp d dp n).1 d = va_cpy (M.1 s) (M.1 d) sp dp n := by simp [cpI]
theorem stI_off {M : Mm} {c j : Nat} {v : Int32} {c' : Nat} (h : c' ≠ c) : (stI M c j v).1 c' = M.1 c' ∧ (stI M c j v).2 c' = M.2 c' := by simp [stI, h]
theorem stL_off {M : Mm} {c j : Nat} {v : Int64} {c' : Nat} (h : c' ≠ c) : (stL M c j v).1 c' = M.1 c' ∧ (stL M c j v).2 c' = M.2 c' := by simp [stL, h]
theorem cpI_off {M : Mm} {s sp d dp n : Nat} {c' : Nat} (h : c' ≠ d) : (cpI M s sp d dp n).1 c' = M.1 c' ∧ (cpI M s sp d dp n).2 c' = M.2 c' := by simp [cpI, h]
theorem mfs_setI (ad : Nat → Nat) (M : Mm) (c j : Nat) (v : Int32) (fs : List Fs) (hf : fs[j]? = some none) : (mfs ad M c 0 fs).set j (.int v) = mfs ad (stI M c j v) c 0 fs := by
  apply List.ext_getElem?
  intro i
  rw [List.getElem?_set, mfs_get, mfs_get, mfs_len]
  by_cases h : j = i
  · subst h
    obtain ⟨hlt, hf'⟩ := List.getElem?_eq_some_iff.mp hf
    simp [hf', hlt, mfv, stI_at, upd]
  · simp only [h, if_false]
    have hi : ¬ i = j := fun e => h e.symm
    cases fs[i]? with
    | none => rfl
    | some f => match f with
      | none => simp [mfv, stI_at, upd, hi]
      | some none => simp [mfv, stI]
      | some (some t) => rfl
theorem mfs_setL (ad : Nat → Nat) (M : Mm) (c j : Nat) (v : Int64) (fs : List Fs) (hf : fs[j]? = some (some none)) : (mfs ad M c 0 fs).set j (.long v) = mfs ad (stL M c j v) c 0 fs := by
  apply List.ext_getElem?
  intro i
  rw [List.getElem?_set, mfs_get, mfs_get, mfs_len]
  by_cases h : j = i
  · subst h
    obtain ⟨hlt, hf'⟩ := List.getElem?_eq_some_iff.mp hf
    simp [hf', hlt, mfv, stL_at, vp_updL]
  · simp only [h, if_false]
    have hi : ¬ i = j := fun e => h e.symm
    cases fs[i]? with
    | none => rfl
    | some f => match f with
      | none => simp [mfv, stL]
      | some none => simp [mfv, stL_at, vp_updL, hi]
      | some (some t) => rfl
theorem mfv_congr {ad : Nat → Nat} {M M' : Mm} {c : Nat} (h : M'.1 c = M.1 c ∧ M'.2 c = M.2 c) (k : Nat) (f : Fs) : mfv ad M' c k f = mfv ad M c k f := by
  match f with
  | none => simp [mfv, h.1]
  | some none => simp [mfv, h.2]
  | some (some t) => rfl
theorem mfs_congr {ad : Nat → Nat} {M M' : Mm} {c : Nat} (h : M'.1 c = M.1 c ∧ M'.2 c = M.2 c) : ∀ (fs : List Fs) (k : Nat), mfs ad M' c k fs = mfs ad M c k fs
  | [], k => rfl
  | f :: fs, k => by simp only [mfs, mfs_congr h fs (k + 1), mfv_congr h]
theorem mcell_congr {cy : ClassId × ClassId × ClassId} {ad : Nat → Nat} {M M' : Mm} {c : Nat} (h : M'.1 c = M.1 c ∧ M'.2 c = M.2 c) (sh : Sh) : mcell cy ad M' c sh = mcell cy ad M c sh := by
  match sh with
  | .inl (ci, fs) => simp only [mcell, mfs_congr h]
  | .inr (0, n) => simp only [mcell, h.1]
  | .inr (1, n) => simp only [mcell, h.2]
  | .inr (k + 2, n) => simp only [mcell, h.1]
theorem wl_at {cy : ClassId × ClassId × ClassId} {ad : Nat → Nat} {cs : List Nat} {M : Mm} {q0 c : Nat} (hq : cs[q0]? = some c) : (wl cy ad cs M)[q0]? = some (ad c, mcell cy ad M c (shp c)) := by simp [wl, hq]
theorem wl_set {A : Nat → Prop} {cy : ClassId × ClassId × ClassId} {ad : Nat → Nat} {cs : List Nat} {M M' : Mm} {q0 c : Nat} (hd : dj A ad cs) (hq : cs[q0]? = some c) (hM : ∀ c', c' ≠ c → M'.1 c' = M.1 c' ∧ M'.2 c' = M.2 c') :
    (wl cy ad cs M).set q0 (ad c, mcell cy ad M' c (shp c)) = wl cy ad cs M' := by
  apply List.ext_getElem?
  intro i
  rw [List.getElem?_set]
  have hlt : q0 < (wl cy ad cs M).length := by simpa [wl] using (List.getElem?_eq_some_iff.mp hq).1
  by_cases h : q0 = i
  · subst h
    simp only [if_true, hlt, wl_at hq]
  · simp only [h, if_false]
    simp only [wl, List.getElem?_map]
    cases hi : cs[i]? with
    | none => rfl
    | some c' =>
      have hne : c' ≠ c := fun e => h (hd.1 q0 i c c' hq hi (by rw [e]))
      simp only [Option.map_some, mcell_congr (hM c' hne)]
theorem wl_D {A : Nat → Prop} {cy : ClassId × ClassId × ClassId} {ad : Nat → Nat} {cs : List Nat} (hd : dj A ad cs) (M : Mm) : va_D A (wl cy ad cs M) := by
  refine ⟨fun i j p q hi hj e => ?_, fun k q hk => ?_⟩
  · simp only [wl, List.getElem?_map, Option.map_eq_some_iff] at hi hj
    obtain ⟨a, ha, rfl⟩ := hi
    obtain ⟨b, hb, rfl⟩ := hj
    exact hd.1 i j a b ha hb e
  · simp only [wl, List.getElem?_map, Option.map_eq_some_iff] at hk
    obtain ⟨a, ha, rfl⟩ := hk
    exact hd.2 a (List.mem_of_getElem? ha)
theorem goodIn_tb {w : Cond} (h : w ∈ tb) : GoodIn tb (w :: tb) := fun x hx => by
  have h1 : x ∈ tb := (List.mem_cons.mp hx).elim (fun e => e ▸ h) id
  exact ⟨h1, good_of_word (List.mem_filter.mp h1).2⟩
theorem CT.of {ad : Nat → Nat} {cs : List Nat} {y : MethodName} {cc : ByteArray} {maxL : Nat} {ret : Option FieldType} {fr lo : Nat} {av : List Value} {M M' : Mm} {r : Option Value} (own : String) (hy : plainName y.cls = true) (ho : y.cls = own) (hlen : (lg_sl av).length ≤ maxL)
    (body : ∀ X : XT, XOK X maxL ad cs cc own fr lo → XR X ad cs ret r M' → VV X maxL ad cs M 0 (lv_args 0 av) []) : CT ad cs y cc maxL ret fr lo av M r M' := by
  intro l D cy
  refine Met.ofW (cc := cc) (maxL := maxL) (ret := ret) hy rfl ?_
  intro p e s m args below meth c s₁ B hml hv
  obtain ⟨rfl, hP, hK, hD⟩ := hv
  have hts := atoms_spec (ws := .code y cc maxL ret :: tb) B.pre
  have hown : s.vm.findClass own = some m.cls := by rw [← ho]; exact findClass_of_methodNamed B.named
  have hX := body (p, l, e, ({ frames := fr, cells := 0, slots := 0, locals := lo } : Room), s, m, av.toArray, below, meth, c, D, cy, Ad ad cs, 0, 0, _) ⟨B.exec, B.bytes, hml, hown, fun w h => hts w (List.mem_cons_of_mem _ h), hK, ⟨hD.1, fun c hc => ⟨c, hc, rfl⟩⟩, Nat.le_refl _, Nat.le_refl _, Nat.zero_le _, Nat.zero_le _⟩ ⟨rfl, B.returns, B.notSynchronized⟩
  have hl := lv_entry av (n := maxL) hlen
  rw [lg_entry_eq]
  exact hX s.heap [] _ hP va_S.rf hl
section VR
variable {X : XT} {nL : Nat} {ad : Nat → Nat} {cs : List Nat} {cc : ByteArray} {own : String} {fr lo : Nat} {M M' : Mm} {pc : Nat} {lv lv' : List (Nat × Value)} {st : List Value}
theorem v_iconst {n : Int} {v : Int32} (hX : XOK X nL ad cs cc own fr lo) (d : decode cc pc = .ok (.iconst n, 1)) (hv : Int32.ofInt n = v) (k : VV X nL ad cs M (pc + 1) lv (.int v :: st)) : VV X nL ad cs M pc lv st := by
  obtain ⟨p, l, e, R, s, m, args, below, meth, c, D, cy, A, kc, ks, Q⟩ := X
  intro H locs ls hP hS hl
  exact lv_iconst hX.1 hX.2.1 d hv (k H locs ls hP hS hl)
theorem v_bipush {n : Int} {v : Int32} (hX : XOK X nL ad cs cc own fr lo) (d : decode cc pc = .ok (.bipush n, 2)) (hv : (Int8.ofInt n).toInt32 = v) (k : VV X nL ad cs M (pc + 2) lv (.int v :: st)) : VV X nL ad cs M pc lv st := by
  obtain ⟨p, l, e, R, s, m, args, below, meth, c, D, cy, A, kc, ks, Q⟩ := X
  intro H locs ls hP hS hl
  exact lv_bipush hX.1 hX.2.1 d hv (k H locs ls hP hS hl)
theorem v_sipush {n : Int} {v : Int32} (hX : XOK X nL ad cs cc own fr lo) (d : decode cc pc = .ok (.sipush n, 3)) (hv : (Int16.ofInt n).toInt32 = v) (k : VV X nL ad cs M (pc + 3) lv (.int v :: st)) : VV X nL ad cs M pc lv st := by
  obtain ⟨p, l, e, R, s, m, args, below, meth, c, D, cy, A, kc, ks, Q⟩ := X
  intro H locs ls hP hS hl
  exact lv_sipush hX.1 hX.2.1 d hv (k H locs ls hP hS hl)
theorem v_lconst {n : Fin 2} {v : Int64} (hX : XOK X nL ad cs cc own fr lo) (d : decode cc pc = .ok (.lconst n, 1)) (hv : Int64.ofNat (n : Nat) = v) (k : VV X nL ad cs M (pc + 1) lv (.long v :: st)) : VV X nL ad cs M pc lv st := by
  obtain ⟨p, l, e, R, s, m, args, below, meth, c, D, cy, A, kc, ks, Q⟩ := X
  intro H locs ls hP hS hl
  exact lv_lconst hX.1 hX.2.1 d hv (k H locs ls hP hS hl)
theorem v_ldc {i : Nat} {v : Int32} (hX : XOK X nL ad cs cc own fr lo) (hw : Cond.constant own i v ∈ tb) (d : decode cc pc = .ok (.ldc i, 2)) (k : VV X nL ad cs M (pc + 2) lv (.int v :: st)) : VV X nL ad cs M pc lv st := by
  obtain ⟨p, l, e, R, s, m, args, below, meth, c, D, cy, A, kc, ks, Q⟩ := X
  intro H locs ls hP hS hl
  exact lv_ldc hX.1 hX.2.1 hX.2.2.2.1 (hX.2.2.2.2.1 _ hw) d (k H locs ls hP hS hl)
theorem v_ldc2 {i : Nat} {v : Int64} (hX : XOK X nL ad cs cc own fr lo) (hw : Cond.constantLong own i v ∈ tb) (d : decode cc pc = .ok (.ldc2_w i, 3)) (k : VV X nL ad cs M (pc + 3) lv (.long v :: st)) : VV X nL ad cs M pc lv st := by
  obtain ⟨p, l, e, R, s, m, args, below, meth, c, D, cy, A, kc, ks, Q⟩ := X
  intro H locs ls hP hS hl
  exact lv_ldc2 hX.1 hX.2.1 hX.2.2.2.1 (hX.2.2.2.2.1 _ hw) d (k H locs ls hP hS hl)
theorem v_iload_n {f : Fin 4} {x : Int32} (j : Nat) (hX : XOK X nL ad cs cc own fr lo) (d : decode cc pc = .ok (.iload_n f, 1)) (hj : lv[j]? = some ((f : Nat), .int x)) (k : VV X nL ad cs M (pc + 1) lv (.int x :: st)) : VV X nL ad cs M pc lv st := by
  obtain ⟨p, l, e, R, s, m, args, below, meth, c, D, cy, A, kc, ks, Q⟩ := X
  intro H locs ls hP hS hl
  exact lv_iload_n hX.1 hX.2.1 d rfl (lv_at hl j hj) (k H locs ls hP hS hl)
theorem v_iload {i : Nat} {x : Int32} (j : Nat) (hX : XOK X nL ad cs cc own fr lo) (d : decode cc pc = .ok (.iload i, 2)) (hj : lv[j]? = some (i, .int x)) (k : VV X nL ad cs M (pc + 2) lv (.int x :: st)) : VV X nL ad cs M pc lv st := by
  obtain ⟨p, l, e, R, s, m, args, below, meth, c, D, cy, A, kc, ks, Q⟩ := X
  intro H locs ls hP hS hl
  exact lv_iload hX.1 hX.2.1 d (lv_at hl j hj) (k H locs ls hP hS hl)
theorem v_lload_n {f : Fin 4} {x : Int64} (j : Nat) (hX : XOK X nL ad cs cc own fr lo) (d : decode cc pc = .ok (.lload_n f, 1)) (hj : lv[j]? = some ((f : Nat), .long x)) (k : VV X nL ad cs M (pc + 1) lv (.long x :: st)) : VV X nL ad cs M pc lv st := by
  obtain ⟨p, l, e, R, s, m, args, below, meth, c, D, cy, A, kc, ks, Q⟩ := X
  intro H locs ls hP hS hl
  exact lv_lload_n hX.1 hX.2.1 d rfl (lv_at hl j hj) (k H locs ls hP hS hl)
theorem v_lload {i : Nat} {x : Int64} (j : Nat) (hX : XOK X nL ad cs cc own fr lo) (d : decode cc pc = .ok (.lload i, 2)) (hj : lv[j]? = some (i, .long x)) (k : VV X nL ad cs M (pc + 2) lv (.long x :: st)) : VV X nL ad cs M pc lv st := by
  obtain ⟨p, l, e, R, s, m, args, below, meth, c, D, cy, A, kc, ks, Q⟩ := X
  intro H locs ls hP hS hl
  exact lv_lload hX.1 hX.2.1 d (lv_at hl j hj) (k H locs ls hP hS hl)
theorem v_aload_n {f : Fin 4} {x : Nat} (j : Nat) (hX : XOK X nL ad cs cc own fr lo) (d : decode cc pc = .ok (.aload_n f, 1)) (hj : lv[j]? = some ((f : Nat), .ref x)) (k : VV X nL ad cs M (pc + 1) lv (.ref x :: st)) : VV X nL ad cs M pc lv st := by
  obtain ⟨p, l, e, R, s, m, args, below, meth, c, D, cy, A, kc, ks, Q⟩ := X
  intro H locs ls hP hS hl
  exact lv_aload_n hX.1 hX.2.1 d rfl (lv_at hl j hj) (k H locs ls hP hS hl)
theorem v_aload {i x : Nat} (j : Nat) (hX : XOK X nL ad cs cc own fr lo) (d : decode cc pc = .ok (.aload i, 2)) (hj : lv[j]? = some (i, .ref x)) (k : VV X nL ad cs M (pc + 2) lv (.ref x :: st)) : VV X nL ad cs M pc lv st := by
  obtain ⟨p, l, e, R, s, m, args, below, meth, c, D, cy, A, kc, ks, Q⟩ := X
  intro H locs ls hP hS hl
  exact lv_aload hX.1 hX.2.1 d (lv_at hl j hj) (k H locs ls hP hS hl)
theorem v_istore_n {f : Fin 4} {x : Int32} (lv' : List (Nat × Value)) (hX : XOK X nL ad cs cc own fr lo) (d : decode cc pc = .ok (.istore_n f, 1)) (hn : (f : Nat) < nL) (hl' : ((f : Nat), Value.int x) :: lv.filter (fun q => !(q.1 == (f : Nat)) && !(q.1 + 1 == (f : Nat) && q.2.category == 2)) = lv') (k : VV X nL ad cs M (pc + 1) lv' st) : VV X nL ad cs M pc lv (.int x :: st) := by
  obtain ⟨p, l, e, R, s, m, args, below, meth, c, D, cy, A, kc, ks, Q⟩ := X
  intro H locs ls hP hS hl
  exact lv_istore_n hX.1 hX.2.1 d rfl hl hn hl' (fun ls' h' => k H locs ls' hP hS h')
theorem v_istore {i : Nat} {x : Int32} (lv' : List (Nat × Value)) (hX : XOK X nL ad cs cc own fr lo) (d : decode cc pc = .ok (.istore i, 2)) (hn : i < nL) (hl' : (i, Value.int x) :: lv.filter (fun q => !(q.1 == i) && !(q.1 + 1 == i && q.2.category == 2)) = lv') (k : VV X nL ad cs M (pc + 2) lv' st) : VV X nL ad cs M pc lv (.int x :: st) := by
  obtain ⟨p, l, e, R, s, m, args, below, meth, c, D, cy, A, kc, ks, Q⟩ := X
  intro H locs ls hP hS hl
  exact lv_istore hX.1 hX.2.1 d hl hn hl' (fun ls' h' => k H locs ls' hP hS h')
theorem v_lstore_n {f : Fin 4} {x : Int64} (lv' : List (Nat × Value)) (hX : XOK X nL ad cs cc own fr lo) (d : decode cc pc = .ok (.lstore_n f, 1)) (hn : (f : Nat) + 1 < nL) (hl' : ((f : Nat), Value.long x) :: lv.filter (fun q => !(q.1 == (f : Nat)) && (!(q.1 == (f : Nat) + 1) && !(q.1 + 1 == (f : Nat) && q.2.category == 2))) = lv') (k : VV X nL ad cs M (pc + 1) lv' st) : VV X nL ad cs M pc lv (.long x :: st) := by
  obtain ⟨p, l, e, R, s, m, args, below, meth, c, D, cy, A, kc, ks, Q⟩ := X
  intro H locs ls hP hS hl
  exact lv_lstore_n hX.1 hX.2.1 d rfl hl hn hl' (fun ls' h' => k H locs ls' hP hS h')
theorem v_lstore {i : Nat} {x : Int64} (lv' : List (Nat × Value)) (hX : XOK X nL ad cs cc own fr lo) (d : decode cc pc = .ok (.lstore i, 2)) (hn : i + 1 < nL) (hl' : (i, Value.long x) :: lv.filter (fun q => !(q.1 == i) && (!(q.1 == i + 1) && !(q.1 + 1 == i && q.2.category == 2))) = lv') (k : VV X nL ad cs M (pc + 2) lv' st) : VV X nL ad cs M pc lv (.long x :: st) := by
  obtain ⟨p, l, e, R, s, m, args, below, meth, c, D, cy, A, kc, ks, Q⟩ := X
  intro H locs ls hP hS hl
  exact lv_lstore hX.1 hX.2.1 d hl hn hl' (fun ls' h' => k H locs ls' hP hS h')
theorem v_astore_n {f : Fin 4} {x : Nat} (lv' : List (Nat × Value)) (hX : XOK X nL ad cs cc own fr lo) (d : decode cc pc = .ok (.astore_n f, 1)) (hn : (f : Nat) < nL) (hl' : ((f : Nat), Value.ref x) :: lv.filter (fun q => !(q.1 == (f : Nat)) && !(q.1 + 1 == (f : Nat) && q.2.category == 2)) = lv') (k : VV X nL ad cs M (pc + 1) lv' st) : VV X nL ad cs M pc lv (.ref x :: st) := by
  obtain ⟨p, l, e, R, s, m, args, below, meth, c, D, cy, A, kc, ks, Q⟩ := X
  intro H locs ls hP hS hl
  exact lv_astore_n hX.1 hX.2.1 d rfl hl hn hl' (fun ls' h' => k H locs ls' hP hS h')
theorem v_astore {i x : Nat} (lv' : List (Nat × Value)) (hX : XOK X nL ad cs cc own fr lo) (d : decode cc pc = .ok (.astore i, 2)) (hn : i < nL) (hl' : (i, Value.ref x) :: lv.filter (fun q => !(q.1 == i) && !(q.1 + 1 == i && q.2.category == 2)) = lv') (k : VV X nL ad cs M (pc + 2) lv' st) : VV X nL ad cs M pc lv (.ref x :: st) := by
  obtain ⟨p, l, e, R, s, m, args, below, meth, c, D, cy, A, kc, ks, Q⟩ := X
  intro H locs ls hP hS hl
  exact lv_astore hX.1 hX.2.1 d hl hn hl' (fun ls' h' => k H locs ls' hP hS h')
theorem v_iinc {i : Nat} {n : Int} {x v : Int32} (j : Nat) (lv' : List (Nat × Value)) (hX : XOK X nL ad cs cc own fr lo) (d : decode cc pc = .ok (.iinc i n, 3)) (hj : lv[j]? = some (i, .int x)) (hv : v = x + Int32.ofInt n) (hn : i < nL) (hl' : (i, Value.int v) :: lv.filter (fun q => !(q.1 == i) && !(q.1 + 1 == i && q.2.category == 2)) = lv') (k : VV X nL ad cs M (pc + 3) lv' st) : VV X nL ad cs M pc lv st := by
  obtain ⟨p, l, e, R, s, m, args, below, meth, c, D, cy, A, kc, ks, Q⟩ := X
  intro H locs ls hP hS hl
  exact lv_iinc hX.1 hX.2.1 d hl hj hv.symm hn hl' (fun ls' h' => k H locs ls' hP hS h')
theorem v_top {x y : Int32} (e : y = x) (k : VV X nL ad cs M pc lv (.int y :: st)) : VV X nL ad cs M pc lv (.int x :: st) := e ▸ k
theorem v_topl {x y : Int64} (e : y = x) (k : VV X nL ad cs M pc lv (.long y :: st)) : VV X nL ad cs M pc lv (.long x :: st) := e ▸ k
theorem v_mem (e : M' = M) (k : VV X nL ad cs M' pc lv st) : VV X nL ad cs M pc lv st := e ▸ k
theorem v_sub (is : List Nat) (e : lv_pick lv is = lv') (k : VV X nL ad cs M pc lv' st) : VV X nL ad cs M pc lv st := by
  obtain ⟨p, l, e, R, s, m, args, below, meth, c, D, cy, A, kc, ks, Q⟩ := X
  intro H locs ls hP hS hl
  exact k H locs ls hP hS (lv_sub hl is (by assumption))
theorem v_goto {off : Int} {tgt : Nat} (hX : XOK X nL ad cs cc own fr lo) (d : decode cc pc = .ok (.goto off, 3)) (ht : (pc : Int) + off = (tgt : Int)) (k : VV X nL ad cs M tgt lv st) : VV X nL ad cs M pc lv st := by
  obtain ⟨p, l, e, R, s, m, args, below, meth, c, D, cy, A, kc, ks, Q⟩ := X
  intro H locs ls hP hS hl
  exact lv_goto hX.1 hX.2.1 d ht (k H locs ls hP hS hl)
theorem v_dup {va : Value} (hX : XOK X nL ad cs cc own fr lo) (d : decode cc pc = .ok (.dup, 1)) (h : va.category = 1) (k : VV X nL ad cs M (pc + 1) lv (va :: va :: st)) : VV X nL ad cs M pc lv (va :: st) := by
  obtain ⟨p, l, e, R, s, m, args, below, meth, c, D, cy, A, kc, ks, Q⟩ := X
  intro H locs ls hP hS hl
  exact lv_dup hX.1 hX.2.1 d h (k H locs ls hP hS hl)
theorem v_dup2 {va vb : Value} (hX : XOK X nL ad cs cc own fr lo) (d : decode cc pc = .ok (.dup2, 1)) (h : va.category = 1) (h2 : vb.category = 1) (k : VV X nL ad cs M (pc + 1) lv (va :: vb :: va :: vb :: st)) : VV X nL ad cs M pc lv (va :: vb :: st) := by
  obtain ⟨p, l, e, R, s, m, args, below, meth, c, D, cy, A, kc, ks, Q⟩ := X
  intro H locs ls hP hS hl
  exact lv_dup2_11 hX.1 hX.2.1 d h h2 (k H locs ls hP hS hl)
theorem v_pop {va : Value} (hX : XOK X nL ad cs cc own fr lo) (d : decode cc pc = .ok (.pop, 1)) (h : va.category = 1) (k : VV X nL ad cs M (pc + 1) lv st) : VV X nL ad cs M pc lv (va :: st) := by
  obtain ⟨p, l, e, R, s, m, args, below, meth, c, D, cy, A, kc, ks, Q⟩ := X
  intro H locs ls hP hS hl
  exact lv_pop hX.1 hX.2.1 d h (k H locs ls hP hS hl)
theorem v_lcmp {x y : Int64} (hX : XOK X nL ad cs cc own fr lo) (d : decode cc pc = .ok (.lcmp, 1)) (k : VV X nL ad cs M (pc + 1) lv (.int (lg_cmp x y) :: st)) : VV X nL ad cs M pc lv (.long y :: .long x :: st) := by
  obtain ⟨p, l, e, R, s, m, args, below, meth, c, D, cy, A, kc, ks, Q⟩ := X
  intro H locs ls hP hS hl
  exact W.lcmp hX.1 hX.2.1 d (k H locs ls hP hS hl)
theorem v_i2l {x : Int32} (hX : XOK X nL ad cs cc own fr lo) (d : decode cc pc = .ok (.i2l, 1)) (k : VV X nL ad cs M (pc + 1) lv (.long x.toInt64 :: st)) : VV X nL ad cs M pc lv (.int x :: st) := by
  obtain ⟨p, l, e, R, s, m, args, below, meth, c, D, cy, A, kc, ks, Q⟩ := X
  intro H locs ls hP hS hl
  exact lv_i2l hX.1 hX.2.1 d rfl (k H locs ls hP hS hl)
def i2c (x : Int32) : Int32 := (x.toUInt32 % 65536).toInt32
theorem v_i2c {x : Int32} (hX : XOK X nL ad cs cc own fr lo) (d : decode cc pc = .ok (.i2c, 1)) (k : VV X nL ad cs M (pc + 1) lv (.int (i2c x) :: st)) : VV X nL ad cs M pc lv (.int x :: st) := by
  obtain ⟨p, l, e, R, s, m, args, below, meth, c, D, cy, A, kc, ks, Q⟩ := X
  intro H locs ls hP hS hl
  exact lv_i2c hX.1 hX.2.1 d rfl (k H locs ls hP hS hl)
theorem v_iadd {x y : Int32} (hX : XOK X nL ad cs cc own fr lo) (d : decode cc pc = .ok (.iadd, 1)) (k : VV X nL ad cs M (pc + 1) lv (.int (x + y) :: st)) : VV X nL ad cs M pc lv (.int y :: .int x :: st) := by
  obtain ⟨p, l, e, R, s, m, args, below, meth, c, D, cy, A, kc, ks, Q⟩ := X
  intro H locs ls hP hS hl
  exact lv_iadd hX.1 hX.2.1 d (k H locs ls hP hS hl)
theorem v_isub {x y : Int32} (hX : XOK X nL ad cs cc own fr lo) (d : decode cc pc = .ok (.isub, 1)) (k : VV X nL ad cs M (pc + 1) lv (.int (x - y) :: st)) : VV X nL ad cs M pc lv (.int y :: .int x :: st) := by
  obtain ⟨p, l, e, R, s, m, args, below, meth, c, D, cy, A, kc, ks, Q⟩ := X
  intro H locs ls hP hS hl
  exact lv_isub hX.1 hX.2.1 d (k H locs ls hP hS hl)
theorem v_imul {x y : Int32} (hX : XOK X nL ad cs cc own fr lo) (d : decode cc pc = .ok (.imul, 1)) (k : VV X nL ad cs M (pc + 1) lv (.int (x * y) :: st)) : VV X nL ad cs M pc lv (.int y :: .int x :: st) := by
  obtain ⟨p, l, e, R, s, m, args, below, meth, c, D, cy, A, kc, ks, Q⟩ := X
  intro H locs ls hP hS hl
  exact lv_imul hX.1 hX.2.1 d (k H locs ls hP hS hl)
theorem v_iand {x y : Int32} (hX : XOK X nL ad cs cc own fr lo) (d : decode cc pc = .ok (.iand, 1)) (k : VV X nL ad cs M (pc + 1) lv (.int (x &&& y) :: st)) : VV X nL ad cs M pc lv (.int y :: .int x :: st) := by
  obtain ⟨p, l, e, R, s, m, args, below, meth, c, D, cy, A, kc, ks, Q⟩ := X
  intro H locs ls hP hS hl
  exact lv_iand hX.1 hX.2.1 d (k H locs ls hP hS hl)
theorem v_ior {x y : Int32} (hX : XOK X nL ad cs cc own fr lo) (d : decode cc pc = .ok (.ior, 1)) (k : VV X nL ad cs M (pc + 1) lv (.int (x ||| y) :: st)) : VV X nL ad cs M pc lv (.int y :: .int x :: st) := by
  obtain ⟨p, l, e, R, s, m, args, below, meth, c, D, cy, A, kc, ks, Q⟩ := X
  intro H locs ls hP hS hl
  exact lv_ior hX.1 hX.2.1 d (k H locs ls hP hS hl)
theorem v_ishl {x y : Int32} (hX : XOK X nL ad cs cc own fr lo) (d : decode cc pc = .ok (.ishl, 1)) (k : VV X nL ad cs M (pc + 1) lv (.int (x <<< (y &&& 31)) :: st)) : VV X nL ad cs M pc lv (.int y :: .int x :: st) := by
  obtain ⟨p, l, e, R, s, m, args, below, meth, c, D, cy, A, kc, ks, Q⟩ := X
  intro H locs ls hP hS hl
  exact lv_ishl hX.1 hX.2.1 d (k H locs ls hP hS hl)
theorem v_ishr {x y : Int32} (hX : XOK X nL ad cs cc own fr lo) (d : decode cc pc = .ok (.ishr, 1)) (k : VV X nL ad cs M (pc + 1) lv (.int (x >>> (y &&& 31)) :: st)) : VV X nL ad cs M pc lv (.int y :: .int x :: st) := by
  obtain ⟨p, l, e, R, s, m, args, below, meth, c, D, cy, A, kc, ks, Q⟩ := X
  intro H locs ls hP hS hl
  exact lv_ishr hX.1 hX.2.1 d (k H locs ls hP hS hl)
theorem v_ladd {x y : Int64} (hX : XOK X nL ad cs cc own fr lo) (d : decode cc pc = .ok (.ladd, 1)) (k : VV X nL ad cs M (pc + 1) lv (.long (x + y) :: st)) : VV X nL ad cs M pc lv (.long y :: .long x :: st) := by
  obtain ⟨p, l, e, R, s, m, args, below, meth, c, D, cy, A, kc, ks, Q⟩ := X
  intro H locs ls hP hS hl
  exact lv_ladd hX.1 hX.2.1 d (k H locs ls hP hS hl)
theorem v_lsub {x y : Int64} (hX : XOK X nL ad cs cc own fr lo) (d : decode cc pc = .ok (.lsub, 1)) (k : VV X nL ad cs M (pc + 1) lv (.long (x - y) :: st)) : VV X nL ad cs M pc lv (.long y :: .long x :: st) := by
  obtain ⟨p, l, e, R, s, m, args, below, meth, c, D, cy, A, kc, ks, Q⟩ := X
  intro H locs ls hP hS hl
  exact lv_lsub hX.1 hX.2.1 d (k H locs ls hP hS hl)
theorem v_lmul {x y : Int64} (hX : XOK X nL ad cs cc own fr lo) (d : decode cc pc = .ok (.lmul, 1)) (k : VV X nL ad cs M (pc + 1) lv (.long (x * y) :: st)) : VV X nL ad cs M pc lv (.long y :: .long x :: st) := by
  obtain ⟨p, l, e, R, s, m, args, below, meth, c, D, cy, A, kc, ks, Q⟩ := X
  intro H locs ls hP hS hl
  exact lv_lmul hX.1 hX.2.1 d (k H locs ls hP hS hl)
theorem v_idiv {x y : Int32} (hX : XOK X nL ad cs cc own fr lo) (d : decode cc pc = .ok (.idiv, 1)) (hne : ¬ y = 0) (k : VV X nL ad cs M (pc + 1) lv (.int (x / y) :: st)) : VV X nL ad cs M pc lv (.int y :: .int x :: st) := by
  obtain ⟨p, l, e, R, s, m, args, below, meth, c, D, cy, A, kc, ks, Q⟩ := X
  intro H locs ls hP hS hl
  exact lv_idiv hX.1 hX.2.1 d hne (k H locs ls hP hS hl)
theorem v_ineg {x : Int32} (hX : XOK X nL ad cs cc own fr lo) (d : decode cc pc = .ok (.ineg, 1)) (k : VV X nL ad cs M (pc + 1) lv (.int (-x) :: st)) : VV X nL ad cs M pc lv (.int x :: st) := by
  obtain ⟨p, l, e, R, s, m, args, below, meth, c, D, cy, A, kc, ks, Q⟩ := X
  intro H locs ls hP hS hl
  exact lv_ineg hX.1 hX.2.1 d (k H locs ls hP hS hl)
theorem v_if_eq {x : Int32} {off : Int} {tgt : Nat} (hX : XOK X nL ad cs cc own fr lo) (d : decode cc pc = .ok (.ifCond .eq off, 3)) (ht : (pc : Int) + off = (tgt : Int)) (kt : x = 0 → VV X nL ad cs M tgt lv st) (kf : ¬ x = 0 → VV X nL ad cs M (pc + 3) lv st) : VV X nL ad cs M pc lv (.int x :: st) := by
  obtain ⟨p, l, e, R, s, m, args, below, meth, c, D, cy, A, kc, ks, Q⟩ := X
  intro H locs ls hP hS hl
  exact lv_if_eq hX.1 hX.2.1 d ht (fun h => kt h H locs ls hP hS hl) (fun h => kf h H locs ls hP hS hl)
theorem v_icmp_eq {x y : Int32} {off : Int} {tgt : Nat} (hX : XOK X nL ad cs cc own fr lo) (d : decode cc pc = .ok (.if_icmp .eq off, 3)) (ht : (pc : Int) + off = (tgt : Int)) (kt : x = y → VV X nL ad cs M tgt lv st) (kf : ¬ x = y → VV X nL ad cs M (pc + 3) lv st) : VV X nL ad cs M pc lv (.int y :: .int x :: st) := by
  obtain ⟨p, l, e, R, s, m, args, below, meth, c, D, cy, A, kc, ks, Q⟩ := X
  intro H locs ls hP hS hl
  exact lv_icmp_eq hX.1 hX.2.1 d ht (fun h => kt h H locs ls hP hS hl) (fun h => kf h H locs ls hP hS hl)
theorem v_if_ne {x : Int32} {off : Int} {tgt : Nat} (hX : XOK X nL ad cs cc own fr lo) (d : decode cc pc = .ok (.ifCond .ne off, 3)) (ht : (pc : Int) + off = (tgt : Int)) (kt : ¬ x = 0 → VV X nL ad cs M tgt lv st) (kf : x = 0 → VV X nL ad cs M (pc + 3) lv st) : VV X nL ad cs M pc lv (.int x :: st) := by
  obtain ⟨p, l, e, R, s, m, args, below, meth, c, D, cy, A, kc, ks, Q⟩ := X
  intro H locs ls hP hS hl
  exact lv_if_ne hX.1 hX.2.1 d ht (fun h => kt h H locs ls hP hS hl) (fun h => kf h H locs ls hP hS hl)
theorem v_icmp_ne {x y : Int32} {off : Int} {tgt : Nat} (hX : XOK X nL ad cs cc own fr lo) (d : decode cc pc = .ok (.if_icmp .ne off, 3)) (ht : (pc : Int) + off = (tgt : Int)) (kt : ¬ x = y → VV X nL ad cs M tgt lv st) (kf : x = y → VV X nL ad cs M (pc + 3) lv st) : VV X nL ad cs M pc lv (.int y :: .int x :: st) := by
  obtain ⟨p, l, e, R, s, m, args, below, meth, c, D, cy, A, kc, ks, Q⟩ := X
  intro H locs ls hP hS hl
  exact lv_icmp_ne hX.1 hX.2.1 d ht (fun h => kt h H locs ls hP hS hl) (fun h => kf h H locs ls hP hS hl)
theorem v_if_lt {x : Int32} {off : Int} {tgt : Nat} (hX : XOK X nL ad cs cc own fr lo) (d : decode cc pc = .ok (.ifCond .lt off, 3)) (ht : (pc : Int) + off = (tgt : Int)) (kt : x < 0 → VV X nL ad cs M tgt lv st) (kf : ¬ x < 0 → VV X nL ad cs M (pc + 3) lv st) : VV X nL ad cs M pc lv (.int x :: st) := by
  obtain ⟨p, l, e, R, s, m, args, below, meth, c, D, cy, A, kc, ks, Q⟩ := X
  intro H locs ls hP hS hl
  exact lv_if_lt hX.1 hX.2.1 d ht (fun h => kt h H locs ls hP hS hl) (fun h => kf h H locs ls hP hS hl)
theorem v_icmp_lt {x y : Int32} {off : Int} {tgt : Nat} (hX : XOK X nL ad cs cc own fr lo) (d : decode cc pc = .ok (.if_icmp .lt off, 3)) (ht : (pc : Int) + off = (tgt : Int)) (kt : x < y → VV X nL ad cs M tgt lv st) (kf : ¬ x < y → VV X nL ad cs M (pc + 3) lv st) : VV X nL ad cs M pc lv (.int y :: .int x :: st) := by
  obtain ⟨p, l, e, R, s, m, args, below, meth, c, D, cy, A, kc, ks, Q⟩ := X
  intro H locs ls hP hS hl
  exact lv_icmp_lt hX.1 hX.2.1 d ht (fun h => kt h H locs ls hP hS hl) (fun h => kf h H locs ls hP hS hl)
theorem v_if_ge {x : Int32} {off : Int} {tgt : Nat} (hX : XOK X nL ad cs cc own fr lo) (d : decode cc pc = .ok (.ifCond .ge off, 3)) (ht : (pc : Int) + off = (tgt : Int)) (kt : 0 ≤ x → VV X nL ad cs M tgt lv st) (kf : ¬ 0 ≤ x → VV X nL ad cs M (pc + 3) lv st) : VV X nL ad cs M pc lv (.int x :: st) := by
  obtain ⟨p, l, e, R, s, m, args, below, meth, c, D, cy, A, kc, ks, Q⟩ := X
  intro H locs ls hP hS hl
  exact lv_if_ge hX.1 hX.2.1 d ht (fun h => kt h H locs ls hP hS hl) (fun h => kf h H locs ls hP hS hl)
theorem v_icmp_ge {x y : Int32} {off : Int} {tgt : Nat} (hX : XOK X nL ad cs cc own fr lo) (d : decode cc pc = .ok (.if_icmp .ge off, 3)) (ht : (pc : Int) + off = (tgt : Int)) (kt : y ≤ x → VV X nL ad cs M tgt lv st) (kf : ¬ y ≤ x → VV X nL ad cs M (pc + 3) lv st) : VV X nL ad cs M pc lv (.int y :: .int x :: st) := by
  obtain ⟨p, l, e, R, s, m, args, below, meth, c, D, cy, A, kc, ks, Q⟩ := X
  intro H locs ls hP hS hl
  exact lv_icmp_ge hX.1 hX.2.1 d ht (fun h => kt h H locs ls hP hS hl) (fun h => kf h H locs ls hP hS hl)
theorem v_if_gt {x : Int32} {off : Int} {tgt : Nat} (hX : XOK X nL ad cs cc own fr lo) (d : decode cc pc = .ok (.ifCond .gt off, 3)) (ht : (pc : Int) + off = (tgt : Int)) (kt : 0 < x → VV X nL ad cs M tgt lv st) (kf : ¬ 0 < x → VV X nL ad cs M (pc + 3) lv st) : VV X nL ad cs M pc lv (.int x :: st) := by
  obtain ⟨p, l, e, R, s, m, args, below, meth, c, D, cy, A, kc, ks, Q⟩ := X
  intro H locs ls hP hS hl
  exact lv_if_gt hX.1 hX.2.1 d ht (fun h => kt h H locs ls hP hS hl) (fun h => kf h H locs ls hP hS hl)
theorem v_icmp_gt {x y : Int32} {off : Int} {tgt : Nat} (hX : XOK X nL ad cs cc own fr lo) (d : decode cc pc = .ok (.if_icmp .gt off, 3)) (ht : (pc : Int) + off = (tgt : Int)) (kt : y < x → VV X nL ad cs M tgt lv st) (kf : ¬ y < x → VV X nL ad cs M (pc + 3) lv st) : VV X nL ad cs M pc lv (.int y :: .int x :: st) := by
  obtain ⟨p, l, e, R, s, m, args, below, meth, c, D, cy, A, kc, ks, Q⟩ := X
  intro H locs ls hP hS hl
  exact lv_icmp_gt hX.1 hX.2.1 d ht (fun h => kt h H locs ls hP hS hl) (fun h => kf h H locs ls hP hS hl)
theorem v_if_le {x : Int32} {off : Int} {tgt : Nat} (hX : XOK X nL ad cs cc own fr lo) (d : decode cc pc = .ok (.ifCond .le off, 3)) (ht : (pc : Int) + off = (tgt : Int)) (kt : x ≤ 0 → VV X nL ad cs M tgt lv st) (kf : ¬ x ≤ 0 → VV X nL ad cs M (pc + 3) lv st) : VV X nL ad cs M pc lv (.int x :: st) := by
  obtain ⟨p, l, e, R, s, m, args, below, meth, c, D, cy, A, kc, ks, Q⟩ := X
  intro H locs ls hP hS hl
  exact lv_if_le hX.1 hX.2.1 d ht (fun h => kt h H locs ls hP hS hl) (fun h => kf h H locs ls hP hS hl)
theorem v_icmp_le {x y : Int32} {off : Int} {tgt : Nat} (hX : XOK X nL ad cs cc own fr lo) (d : decode cc pc = .ok (.if_icmp .le off, 3)) (ht : (pc : Int) + off = (tgt : Int)) (kt : x ≤ y → VV X nL ad cs M tgt lv st) (kf : ¬ x ≤ y → VV X nL ad cs M (pc + 3) lv st) : VV X nL ad cs M pc lv (.int y :: .int x :: st) := by
  obtain ⟨p, l, e, R, s, m, args, below, meth, c, D, cy, A, kc, ks, Q⟩ := X
  intro H locs ls hP hS hl
  exact lv_icmp_le hX.1 hX.2.1 d ht (fun h => kt h H locs ls hP hS hl) (fun h => kf h H locs ls hP hS hl)
theorem v_tableIn {dflt lo' hi : Int} {offs : Array Int} {len : Nat} {x : Int32} {off : Int} {tgt : Nat} (hX : XOK X nL ad cs cc own fr lo) (d : decode cc pc = .ok (.tableswitch dflt lo' hi offs, len)) (h1 : ¬ x.toInt < lo') (h2 : ¬ hi < x.toInt) (ho : offs[(x.toInt - lo').toNat]? = some off) (ht : (pc : Int) + off = (tgt : Int)) (k : VV X nL ad cs M tgt lv st) : VV X nL ad cs M pc lv (.int x :: st) := by
  obtain ⟨p, l, e, R, s, m, args, below, meth, c, D, cy, A, kc, ks, Q⟩ := X
  intro H locs ls hP hS hl
  exact lv_tableIn hX.1 hX.2.1 d h1 h2 ho ht (k H locs ls hP hS hl)
theorem v_tableOut {dflt lo' hi : Int} {offs : Array Int} {len : Nat} {x : Int32} {tgt : Nat} (hX : XOK X nL ad cs cc own fr lo) (d : decode cc pc = .ok (.tableswitch dflt lo' hi offs, len)) (h : x.toInt < lo' ∨ hi < x.toInt) (ht : (pc : Int) + dflt = (tgt : Int)) (k : VV X nL ad cs M tgt lv st) : VV X nL ad cs M pc lv (.int x :: st) := by
  obtain ⟨p, l, e, R, s, m, args, below, meth, c, D, cy, A, kc, ks, Q⟩ := X
  intro H locs ls hP hS hl
  exact lv_tableOut hX.1 hX.2.1 d h ht (k H locs ls hP hS hl)
theorem v_lookup {dflt : Int} {ps : Array (Int × Int)} {len : Nat} {x : Int32} {off : Int} {tgt : Nat} (hX : XOK X nL ad cs cc own fr lo) (d : decode cc pc = .ok (.lookupswitch dflt ps, len)) (hp : (ps.toList.zip (ps.toList.drop 1)).all (fun (a, next) => a.1 < next.1) = true) (ho : Op.lookupswitch.offset ps.toList dflt x.toInt = off) (ht : (pc : Int) + off = (tgt : Int)) (k : VV X nL ad cs M tgt lv st) : VV X nL ad cs M pc lv (.int x :: st) := by
  obtain ⟨p, l, e, R, s, m, args, below, meth, c, D, cy, A, kc, ks, Q⟩ := X
  intro H locs ls hP hS hl
  exact lv_lookup hX.1 hX.2.1 d hp ho ht (k H locs ls hP hS hl)
/-- a field of the class of kind ci, its k-th, by the link idx of own -/
def FL (own : String) (idx ci k : Nat) : Prop := ∃ (C : String) (T : u_T) (N : Nat), vwCl[ci]? = some (C, T, N) ∧ k < N ∧ (∀ w ∈ u_ws C T N, w ∈ tb) ∧ Cond.fieldLink own idx (T k).1 (T k).2.1 (T k).2.2.1 ∈ tb
def PL (own : String) (idx ci k : Nat) (ty : FieldType) : Prop := ∃ (C : String) (T : u_T) (N : Nat) (ty0 : Nat → FieldType), vwCl[ci]? = some (C, T, N) ∧ k < N ∧ (∀ w ∈ u_ws C T N, w ∈ tb) ∧ Cond.fieldLink own idx (T k).1 (T k).2.1 (T k).2.2.1 ∈ tb ∧ (∀ k, k < N → parseFieldDescriptor (T k).2.2.1 = some (ty0 k)) ∧ (∀ a, a < N → ∀ b, b < N → a ≠ b → (T a).2.1 ≠ (T b).2.1) ∧ (T k).2.2.2 = false ∧ parseFieldDescriptor (T k).2.2.1 = some ty
theorem v_get {c idx k ci : Nat} {fs : List Fs} {f : Fs} (hX : XOK X nL ad cs cc own fr lo) (hc : c ∈ cs) (hsh : shp c = .inl (ci, fs)) (hF : FL own idx ci k) (hf : fs[k]? = some f) (d : decode cc pc = .ok (.getfield idx, 3)) (kk : VV X nL ad cs M (pc + 3) lv (mfv ad M c k f :: st)) : VV X nL ad cs M pc lv (.ref (ad c) :: st) := by
  obtain ⟨p, l, e, R, s, m, args, below, meth, co, D, cy, A, kc, ks, Q⟩ := X
  obtain ⟨hx, hb, hml, hown, hts, hK, hD, hr⟩ := hX
  obtain ⟨C, T, N, h1, h2, h3, h4⟩ := hF
  obtain ⟨q0, hq⟩ := List.mem_iff_getElem?.mp hc
  intro H locs ls hP hS hl
  have he := wl_at (cy := cy) (ad := ad) (M := M) hq
  rw [hsh] at he
  exact va_get hx hb hts h3 hown hK.1 hP q0 he h1 k h2 (hts _ h4) (fun _ h => h) (by rw [mfs_get, hf, Nat.zero_add]; rfl) d (kk H locs ls hP hS hl)
theorem v_getI {c idx k ci : Nat} {fs : List Fs} (hX : XOK X nL ad cs cc own fr lo) (hc : c ∈ cs) (hsh : shp c = .inl (ci, fs)) (hF : FL own idx ci k) (hf : fs[k]? = some none) (d : decode cc pc = .ok (.getfield idx, 3)) (kk : VV X nL ad cs M (pc + 3) lv (.int (M.1 c k) :: st)) : VV X nL ad cs M pc lv (.ref (ad c) :: st) := v_get hX hc hsh hF hf d kk
theorem v_getL {c idx k ci : Nat} {fs : List Fs} (hX : XOK X nL ad cs cc own fr lo) (hc : c ∈ cs) (hsh : shp c = .inl (ci, fs)) (hF : FL own idx ci k) (hf : fs[k]? = some (some none)) (d : decode cc pc = .ok (.getfield idx, 3)) (kk : VV X nL ad cs M (pc + 3) lv (.long (M.2 c k) :: st)) : VV X nL ad cs M pc lv (.ref (ad c) :: st) := v_get hX hc hsh hF hf d kk
theorem v_getR {c idx k ci t : Nat} {fs : List Fs} (hX : XOK X nL ad cs cc own fr lo) (hc : c ∈ cs) (hsh : shp c = .inl (ci, fs)) (hF : FL own idx ci k) (hf : fs[k]? = some (some (some t))) (d : decode cc pc = .ok (.getfield idx, 3)) (kk : VV X nL ad cs M (pc + 3) lv (.ref (ad t) :: st)) : VV X nL ad cs M pc lv (.ref (ad c) :: st) := v_get hX hc hsh hF hf d kk
theorem v_putI_any {c idx k ci : Nat} {fs : List Fs} {x : Int32} {ty : FieldType} (hX : XOK X nL ad cs cc own fr lo) (hc : c ∈ cs) (hsh : shp c = .inl (ci, fs)) (hF : PL own idx ci k ty) (hf : fs[k]? = some none) (hn : narrow ty (.int x) = .int x) (hfit : fits ty (.int x) = true) (d : decode cc pc = .ok (.putfield idx, 3)) (e : M' = stI M c k x) (kk : VV X nL ad cs M' (pc + 3) lv st) : VV X nL ad cs M pc lv (.int x :: .ref (ad c) :: st) := by
  subst e
  obtain ⟨p, l, e, R, s, m, args, below, meth, co, D, cy, A, kc, ks, Q⟩ := X
  obtain ⟨hx, hb, hml, hown, hts, hK, hD, hr⟩ := hX
  obtain ⟨C, T, N, ty0, h1, h2, h3, h4, h5, h6, h7, h8⟩ := hF
  obtain ⟨q0, hq⟩ := List.mem_iff_getElem?.mp hc
  intro H locs ls hP hS hl
  have he := wl_at (cy := cy) (ad := ad) (M := M) hq
  rw [hsh] at he
  have hset : (wl cy ad cs M).set q0 (ad c, .inr (ci, (mfs ad M c 0 fs).set k (.int x))) = wl cy ad cs (stI M c k x) := by
    rw [mfs_setI ad M c k x fs hf, ← wl_set hD hq (fun c' h => stI_off h), hsh]; rfl
  refine va_put hx hb hts h3 ty0 h5 h6 hown hK.1 hP (wl_D hD M) hS q0 he h1 k h2 (hts _ h4) (fun _ h => h) h7 h8 hn hfit (by rw [mfs_len]; exact (List.getElem?_eq_some_iff.mp hf).1) d (fun H1 locs1 hP1 hD1 hS1 => ?_)
  rw [hset] at hP1
  exact kk H1 locs1 ls hP1 hS1 hl
theorem v_putI {c idx k ci : Nat} {fs : List Fs} {x : Int32} (hX : XOK X nL ad cs cc own fr lo) (hc : c ∈ cs) (hsh : shp c = .inl (ci, fs)) (hF : PL own idx ci k .int) (hf : fs[k]? = some none) (d : decode cc pc = .ok (.putfield idx, 3)) (e : M' = stI M c k x) (kk : VV X nL ad cs M' (pc + 3) lv st) : VV X nL ad cs M pc lv (.int x :: .ref (ad c) :: st) := v_putI_any hX hc hsh hF hf rfl rfl d e kk
theorem nb_of {x : Int32} (h : x = 0 ∨ x = 1) : narrow .boolean (.int x) = .int x := by rcases h with rfl | rfl <;> rfl
theorem fb_of {x : Int32} (h : x = 0 ∨ x = 1) : fits .boolean (.int x) = true := by rcases h with rfl | rfl <;> rfl
theorem v_putZ {c idx k ci : Nat} {fs : List Fs} {x : Int32} (hX : XOK X nL ad cs cc own fr lo) (hc : c ∈ cs) (hsh : shp c = .inl (ci, fs)) (hF : PL own idx ci k .boolean) (hf : fs[k]? = some none) (hz : x = 0 ∨ x = 1) (d : decode cc pc = .ok (.putfield idx, 3)) (e : M' = stI M c k x) (kk : VV X nL ad cs M' (pc + 3) lv st) : VV X nL ad cs M pc lv (.int x :: .ref (ad c) :: st) := v_putI_any hX hc hsh hF hf (nb_of hz) (fb_of hz) d e kk
theorem v_putL {c idx k ci : Nat} {fs : List Fs} {x : Int64} (hX : XOK X nL ad cs cc own fr lo) (hc : c ∈ cs) (hsh : shp c = .inl (ci, fs)) (hF : PL own idx ci k .long) (hf : fs[k]? = some (some none)) (d : decode cc pc = .ok (.putfield idx, 3)) (e : M' = stL M c k x) (kk : VV X nL ad cs M' (pc + 3) lv st) : VV X nL ad cs M pc lv (.long x :: .ref (ad c) :: st) := by
  subst e
  obtain ⟨p, l, e, R, s, m, args, below, meth, co, D, cy, A, kc, ks, Q⟩ := X
  obtain ⟨hx, hb, hml, hown, hts, hK, hD, hr⟩ := hX
  obtain ⟨C, T, N, ty0, h1, h2, h3, h4, h5, h6, h7, h8⟩ := hF
  obtain ⟨q0, hq⟩ := List.mem_iff_getElem?.mp hc
  intro H locs ls hP hS hl
  have he := wl_at (cy := cy) (ad := ad) (M := M) hq
  rw [hsh] at he
  have hset : (wl cy ad cs M).set q0 (ad c, .inr (ci, (mfs ad M c 0 fs).set k (.long x))) = wl cy ad cs (stL M c k x) := by
    rw [mfs_setL ad M c k x fs hf, ← wl_set hD hq (fun c' h => stL_off h), hsh]; rfl
  refine va_put hx hb hts h3 ty0 h5 h6 hown hK.1 hP (wl_D hD M) hS q0 he h1 k h2 (hts _ h4) (fun _ h => h) h7 h8 rfl rfl (by rw [mfs_len]; exact (List.getElem?_eq_some_iff.mp hf).1) d (fun H1 locs1 hP1 hD1 hS1 => ?_)
  rw [hset] at hP1
  exact kk H1 locs1 ls hP1 hS1 hl
abbrev inb (i : Int32) (n : Nat) : Prop := 0 ≤ i.toInt ∧ i.toInt < n
theorem v_iald {c n j : Nat} {i : Int32} (hX : XOK X nL ad cs cc own fr lo) (hc : c ∈ cs) (hsh : shp c = .inr (0, n)) (hi : inb i n) (hj : ix i = j) (d : decode cc pc = .ok (.iaload, 1)) (kk : VV X nL ad cs M (pc + 1) lv (.int (M.1 c j) :: st)) : VV X nL ad cs M pc lv (.int i :: .ref (ad c) :: st) := by
  subst hj
  obtain ⟨p, l, e, R, s, m, args, below, meth, co, D, cy, A, kc, ks, Q⟩ := X
  obtain ⟨hx, hb, hml, hown, hts, hK, hD, hr⟩ := hX
  obtain ⟨q0, hq⟩ := List.mem_iff_getElem?.mp hc
  intro H locs ls hP hS hl
  have he := wl_at (cy := cy) (ad := ad) (M := M) hq
  rw [hsh] at he
  exact va_iald hx hb hK.1 hP q0 0 he rfl (vp_in_iff.mpr hi) d (kk H locs ls hP hS hl)
theorem v_cald {c n j : Nat} {i : Int32} (hX : XOK X nL ad cs cc own fr lo) (hc : c ∈ cs) (hsh : shp c = .inr (2, n)) (hi : inb i n) (hj : ix i = j) (d : decode cc pc = .ok (.caload, 1)) (kk : VV X nL ad cs M (pc + 1) lv (.int (M.1 c j) :: st)) : VV X nL ad cs M pc lv (.int i :: .ref (ad c) :: st) := by
  subst hj
  obtain ⟨p, l, e, R, s, m, args, below, meth, co, D, cy, A, kc, ks, Q⟩ := X
  obtain ⟨hx, hb, hml, hown, hts, hK, hD, hr⟩ := hX
  obtain ⟨q0, hq⟩ := List.mem_iff_getElem?.mp hc
  intro H locs ls hP hS hl
  have he := wl_at (cy := cy) (ad := ad) (M := M) hq
  rw [hsh] at he
  exact va_cald hx hb hK.1 hP q0 2 he rfl (vp_in_iff.mpr hi) d (kk H locs ls hP hS hl)
theorem v_lald {c n j : Nat} {i : Int32} (hX : XOK X nL ad cs cc own fr lo) (hc : c ∈ cs) (hsh : shp c = .inr (1, n)) (hi : inb i n) (hj : ix i = j) (d : decode cc pc = .ok (.laload, 1)) (kk : VV X nL ad cs M (pc + 1) lv (.long (M.2 c j) :: st)) : VV X nL ad cs M pc lv (.int i :: .ref (ad c) :: st) := by
  subst hj
  obtain ⟨p, l, e, R, s, m, args, below, meth, co, D, cy, A, kc, ks, Q⟩ := X
  obtain ⟨hx, hb, hml, hown, hts, hK, hD, hr⟩ := hX
  obtain ⟨q0, hq⟩ := List.mem_iff_getElem?.mp hc
  intro H locs ls hP hS hl
  have he := wl_at (cy := cy) (ad := ad) (M := M) hq
  rw [hsh] at he
  exact va_lald hx hb hK.1 hP q0 1 he rfl (vp_in_iff.mpr hi) d (kk H locs ls hP hS hl)
theorem v_iast {c n j : Nat} {i x : Int32} (hX : XOK X nL ad cs cc own fr lo) (hc : c ∈ cs) (hsh : shp c = .inr (0, n)) (hi : inb i n) (hj : ix i = j) (d : decode cc pc = .ok (.iastore, 1)) (e : M' = stI M c j x) (kk : VV X nL ad cs M' (pc + 1) lv st) : VV X nL ad cs M pc lv (.int x :: .int i :: .ref (ad c) :: st) := by
  subst hj; subst e
  obtain ⟨p, l, e, R, s, m, args, below, meth, co, D, cy, A, kc, ks, Q⟩ := X
  obtain ⟨hx, hb, hml, hown, hts, hK, hD, hr⟩ := hX
  obtain ⟨q0, hq⟩ := List.mem_iff_getElem?.mp hc
  intro H locs ls hP hS hl
  have he := wl_at (cy := cy) (ad := ad) (M := M) hq
  rw [hsh] at he
  have hset : (wl cy ad cs M).set q0 (ad c, .inl (cy.1, n, .inl (upd (M.1 c) (ix i) x))) = wl cy ad cs (stI M c (ix i) x) := by
    rw [← stI_at, ← wl_set hD hq (fun c' h => stI_off h), hsh]; rfl
  refine va_iast hx hb hK.1 hP (wl_D hD M) hS q0 0 he rfl (vp_in_iff.mpr hi) d (fun H1 locs1 hP1 hD1 hS1 => ?_)
  rw [show i.toNatClampNeg = ix i from rfl, hset] at hP1
  exact kk H1 locs1 ls hP1 hS1 hl
theorem v_last {c n j : Nat} {i : Int32} {x : Int64} (hX : XOK X nL ad cs cc own fr lo) (hc : c ∈ cs) (hsh : shp c = .inr (1, n)) (hi : inb i n) (hj : ix i = j) (d : decode cc pc = .ok (.lastore, 1)) (e : M' = stL M c j x) (kk : VV X nL ad cs M' (pc + 1) lv st) : VV X nL ad cs M pc lv (.long x :: .int i :: .ref (ad c) :: st) := by
  subst hj; subst e
  obtain ⟨p, l, e, R, s, m, args, below, meth, co, D, cy, A, kc, ks, Q⟩ := X
  obtain ⟨hx, hb, hml, hown, hts, hK, hD, hr⟩ := hX
  obtain ⟨q0, hq⟩ := List.mem_iff_getElem?.mp hc
  intro H locs ls hP hS hl
  have he := wl_at (cy := cy) (ad := ad) (M := M) hq
  rw [hsh] at he
  have hset : (wl cy ad cs M).set q0 (ad c, .inl (cy.2.1, n, .inr (.inl (vp_updL (M.2 c) (ix i) x)))) = wl cy ad cs (stL M c (ix i) x) := by
    rw [← stL_at, ← wl_set hD hq (fun c' h => stL_off h), hsh]; rfl
  refine va_last hx hb hK.1 hP (wl_D hD M) hS q0 1 he rfl (vp_in_iff.mpr hi) d (fun H1 locs1 hP1 hD1 hS1 => ?_)
  rw [show i.toNatClampNeg = ix i from rfl, hset] at hP1
  exact kk H1 locs1 ls hP1 hS1 hl
theorem v_cast {c n j : Nat} {i x : Int32} (hX : XOK X nL ad cs cc own fr lo) (hc : c ∈ cs) (hsh : shp c = .inr (2, n)) (hi : inb i n) (hj : ix i = j) (d : decode cc pc = .ok (.castore, 1)) (e : M' = stI M c j (i2c x)) (kk : VV X nL ad cs M' (pc + 1) lv st) : VV X nL ad cs M pc lv (.int (i2c x) :: .int i :: .ref (ad c) :: st) := by
  subst hj; subst e
  obtain ⟨p, l, e, R, s, m, args, below, meth, co, D, cy, A, kc, ks, Q⟩ := X
  obtain ⟨hx, hb, hml, hown, hts, hK, hD, hr⟩ := hX
  obtain ⟨q0, hq⟩ := List.mem_iff_getElem?.mp hc
  intro H locs ls hP hS hl
  have he := wl_at (cy := cy) (ad := ad) (M := M) hq
  rw [hsh] at he
  have hset : (wl cy ad cs M).set q0 (ad c, .inl (cy.2.2, n, .inl (upd (M.1 c) (ix i) (i2c x)))) = wl cy ad cs (stI M c (ix i) (i2c x)) := by
    rw [← stI_at, ← wl_set hD hq (fun c' h => stI_off h), hsh]; rfl
  refine va_cast hx hb hK.1 hP (wl_D hD M) hS q0 2 he rfl (vp_in_iff.mpr hi) d (fun H1 locs1 hP1 hD1 hS1 => ?_)
  rw [show vp_nar .char (i2c x) = i2c x from pk_vc x, show i.toNatClampNeg = ix i from rfl, hset] at hP1
  exact kk H1 locs1 ls hP1 hS1 hl
theorem v_copy {s0 d0 n0 n1 idx js jd jn : Nat} {sp dp n : Int32} (hX : XOK X nL ad cs cc own fr lo) (hw : Cond.methodLink own idx arraycopyName ∈ tb ∧ Cond.native arraycopyName ∈ tb ∧ Cond.static arraycopyName ∈ tb ∧ Cond.initialized "java/lang/System" ∈ tb) (hs : s0 ∈ cs) (hd : d0 ∈ cs) (hshs : shp s0 = .inr (0, n0)) (hshd : shp d0 = .inr (0, n1)) (h1 : ¬ sp < 0) (h2 : ¬ dp < 0) (h3 : ¬ n < 0) (ejs : ix sp = js) (ejd : ix dp = jd) (ejn : ix n = jn) (h4 : js + jn ≤ n0) (h5 : jd + jn ≤ n1) (hfr : 1 ≤ fr) (hlo : (st.map fun v => v.category).sum + (nativeFrameWords "java/lang/System" "arraycopy" 5 + 11) ≤ lo) (d : decode cc pc = .ok (.invokestatic idx, 3)) (e : M' = cpI M s0 js d0 jd jn) (kk : VV X nL ad cs M' (pc + 3) lv st) : VV X nL ad cs M pc lv (.int n :: .int dp :: .ref (ad d0) :: .int sp :: .ref (ad s0) :: st) := by
  subst ejs; subst ejd; subst ejn; subst e
  obtain ⟨p, l, e, R, s, m, args, below, meth, co, D, cy, A, kc, ks, Q⟩ := X
  obtain ⟨hx, hb, hml, hown, hts, hK, hD, hr⟩ := hX
  obtain ⟨q0, hq⟩ := List.mem_iff_getElem?.mp hs
  obtain ⟨q1, hq1⟩ := List.mem_iff_getElem?.mp hd
  intro H locs ls hP hS hl
  have he := wl_at (cy := cy) (ad := ad) (M := M) hq
  have he1 := wl_at (cy := cy) (ad := ad) (M := M) hq1
  rw [hshs] at he
  rw [hshd] at he1
  have hset : (wl cy ad cs M).set q1 (ad d0, .inl (cy.1, n1, .inl (va_cpy (M.1 s0) (M.1 d0) (ix sp) (ix dp) (ix n)))) = wl cy ad cs (cpI M s0 (ix sp) d0 (ix dp) (ix n)) := by
    rw [← cpI_at, ← wl_set hD hq1 (fun c' h => cpI_off h), hshd]; rfl
  refine va_copyi hx hb (hml.trans hl.1.symm) hown (hts _ hw.1) (hts _ hw.2.1) (hts _ hw.2.2.1) (hts _ hw.2.2.2) hK.1 hP (wl_D hD M) hS q0 q1 0 0 he he1 rfl rfl rfl h1 h2 h3 h4 h5 (fun _ _ => rfl) (Nat.le_trans hfr hr.1) (Nat.le_trans hlo hr.2.1) d (fun H1 locs1 hP1 hD1 hS1 => ?_)
  have hP1 : va_P D vwCl ((wl cy ad cs M).set q1 (ad d0, .inl (cy.1, n1, .inl (va_cpy (M.1 s0) (M.1 d0) (ix sp) (ix dp) (ix n))))) H1 := hP1
  rw [hset] at hP1
  exact kk H1 locs1 ls hP1 hS1 hl
theorem v_min {x y : Int32} {idx : Nat} (hX : XOK X nL ad cs cc own fr lo) (hw : Cond.methodLink own idx Lib.Math.min.name ∈ tb ∧ Cond.static Lib.Math.min.name ∈ tb ∧ Cond.initialized "java/lang/Math" ∈ tb ∧ Cond.code Lib.Math.min.name Lib.Math.min.code 2 (some .int) ∈ tb) (hfr : 1 ≤ fr) (hlo : (st.map fun v => v.category).sum + 13 ≤ lo) (d : decode cc pc = .ok (.invokestatic idx, 3)) (kk : VV X nL ad cs M (pc + 3) lv (.int (if y < x then y else x) :: st)) : VV X nL ad cs M pc lv (.int y :: .int x :: st) := by
  obtain ⟨p, l, e, R, s, m, args, below, meth, co, D, cy, A, kc, ks, Q⟩ := X
  obtain ⟨hx, hb, hml, hown, hts, hK, hD, hr⟩ := hX
  intro H locs ls hP hS hl
  exact va_mmin hx hb (hml.trans hl.1.symm) hown (hts _ hw.1) (hts _ hw.2.1) (hts _ hw.2.2.1) (hts _ hw.2.2.2) (Nat.le_trans hfr hr.1) (Nat.le_trans hlo hr.2.1) hr.2.2.1 hr.2.2.2 d (kk H locs ls hP hS hl)
theorem v_max {x y : Int32} {idx : Nat} (hX : XOK X nL ad cs cc own fr lo) (hw : Cond.methodLink own idx Lib.Math.max.name ∈ tb ∧ Cond.static Lib.Math.max.name ∈ tb ∧ Cond.initialized "java/lang/Math" ∈ tb ∧ Cond.code Lib.Math.max.name Lib.Math.max.code 2 (some .int) ∈ tb) (hfr : 1 ≤ fr) (hlo : (st.map fun v => v.category).sum + 13 ≤ lo) (d : decode cc pc = .ok (.invokestatic idx, 3)) (kk : VV X nL ad cs M (pc + 3) lv (.int (if x < y then y else x) :: st)) : VV X nL ad cs M pc lv (.int y :: .int x :: st) := by
  obtain ⟨p, l, e, R, s, m, args, below, meth, co, D, cy, A, kc, ks, Q⟩ := X
  obtain ⟨hx, hb, hml, hown, hts, hK, hD, hr⟩ := hX
  intro H locs ls hP hS hl
  exact va_mmax hx hb (hml.trans hl.1.symm) hown (hts _ hw.1) (hts _ hw.2.1) (hts _ hw.2.2.1) (hts _ hw.2.2.2) (Nat.le_trans hfr hr.1) (Nat.le_trans hlo hr.2.1) hr.2.2.1 hr.2.2.2 d (kk H locs ls hP hS hl)
theorem v_iret_any {a : Int32} {ty : FieldType} (hX : XOK X nL ad cs cc own fr lo) (hR : XR X ad cs (some ty) (some (.int a)) M) (hn : narrow ty (.int a) = .int a) (d : decode cc pc = .ok (.ireturn, 1)) : VV X nL ad cs M pc lv [.int a] := by
  obtain ⟨p, l, e, R, s, m, args, below, meth, co, D, cy, A, kc, ks, Q⟩ := X
  obtain ⟨rfl, hr, hlk⟩ := hR
  intro H locs ls hP hS hl
  exact W.zret hX.1 hX.2.1 hr hn (fun t ht _ => ⟨⟨rfl, by rw [ht]; exact hP⟩, hS.F ht⟩) hS.2.2 d hlk
theorem v_iret {a : Int32} (hX : XOK X nL ad cs cc own fr lo) (hR : XR X ad cs (some .int) (some (.int a)) M) (d : decode cc pc = .ok (.ireturn, 1)) : VV X nL ad cs M pc lv [.int a] := v_iret_any hX hR rfl d
theorem v_zret {a : Int32} (hX : XOK X nL ad cs cc own fr lo) (hR : XR X ad cs (some .boolean) (some (.int a)) M) (hz : a = 0 ∨ a = 1) (d : decode cc pc = .ok (.ireturn, 1)) : VV X nL ad cs M pc lv [.int a] := v_iret_any hX hR (nb_of hz) d
theorem v_lret {a : Int64} (hX : XOK X nL ad cs cc own fr lo) (hR : XR X ad cs (some .long) (some (.long a)) M) (d : decode cc pc = .ok (.lreturn, 1)) : VV X nL ad cs M pc lv [.long a] := by
  obtain ⟨p, l, e, R, s, m, args, below, meth, co, D, cy, A, kc, ks, Q⟩ := X
  obtain ⟨rfl, hr, hlk⟩ := hR
  intro H locs ls hP hS hl
  exact W.lret hX.1 hX.2.1 hr (fun t ht _ => ⟨⟨rfl, by rw [ht]; exact hP⟩, hS.F ht⟩) hS.2.2 d hlk
theorem v_vret (hX : XOK X nL ad cs cc own fr lo) (hR : XR X ad cs none none M) (d : decode cc pc = .ok (.return_, 1)) : VV X nL ad cs M pc lv [] := by
  obtain ⟨p, l, e, R, s, m, args, below, meth, co, D, cy, A, kc, ks, Q⟩ := X
  obtain ⟨rfl, hr, hlk⟩ := hR
  intro H locs ls hP hS hl
  exact W.vret hX.1 hX.2.1 hr (fun t ht _ => ⟨⟨rfl, by rw [ht]; exact hP⟩, hS.F ht⟩) hS.2.2 d hlk
end VR
end
section
/-! ===== calls, pure combinators, loops ===== -/
theorem CT.blind {ad : Nat → Nat} {cs : List Nat} {D : va_G} {cy : ClassId × ClassId × ClassId} {M : Mm} {av : List Value} : FrameBlind (va_Pc av (fun U => va_P D vwCl (wl cy ad cs M) U.heap ∧ KK D cy U ∧ dj (fun _ => True) ad cs)) :=
  fun _ _ _ _ q => ⟨q.1, q.2.1, KK.same q.2.2.1 rfl, q.2.2.2⟩
section VC
variable {X : XT} {nL : Nat} {ad : Nat → Nat} {cs : List Nat} {cc : ByteArray} {own : String} {fr lo : Nat} {M M' : Mm} {pc : Nat} {lv lv' : List (Nat × Value)} {st : List Value}
theorem v_run {p : Program} {l : Launch} {e : Env} {R : Room} {s : State} {m : MethodId} {args : Array Value} {below : List Frame} {meth : Method} {c : Code} {D : va_G} {cy : ClassId × ClassId × ClassId} {A : Nat → Prop} {kc ks : Nat} {Q : State → Prop} {H : Heap} {locs : List Loc} {ls : Array Slot} {stk : List Value} {r : Option Value} {av : Array Value}
    (hr : va_Run p l e R s m args below meth c H locs kc ks 0 0 (F0 m pc ls stk) st (mQ D cy ad cs r M' (Ad ad cs) av) (Ad ad cs)) (hD : dj A ad cs) (hS : va_S A s.heap H locs) (hl : lv_has ls nL lv)
    (kk : VV (p, l, e, R, s, m, args, below, meth, c, D, cy, A, kc, ks, Q) nL ad cs M' (pc + 3) lv (r.toList ++ st)) : W p l e R s m args below meth c H locs kc ks Q (F0 m pc ls stk) := by
  intro T hT XS
  obtain ⟨v, st₀, t, T', L, h0, X', hL, e1, -, ⟨⟨ho, hP1⟩, hF⟩, go⟩ := hr T hT XS
  obtain rfl : v = r := by injection ho
  have hsub : ∀ q, Ad ad cs q → A q := fun q ⟨c, hc, hq⟩ => hq ▸ hD.2 c hc
  have hS' : va_S A s.heap T'.heap (locs ++ L) := by
    refine ⟨?_, fun q h1 h2 => ?_, fun x hx => ?_⟩
    · rw [e1]; exact Nat.le_trans hS.1 (h0 ▸ hF.1)
    · rw [e1, hF.2 q (by rw [h0]; exact Nat.lt_of_lt_of_le h1 hS.1) (fun h => h2 (hsub q h)), h0]; exact hS.2.1 q h1 h2
    · exact (List.mem_append.mp hx).elim (hS.2.2 x) (fun h => hsub _ (hL x h))
  obtain ⟨t2, a1, b1⟩ := kk T'.heap (locs ++ L) ls (by rw [e1]; exact hP1) hS' hl T' rfl X'
  exact ⟨t2, go t2 a1, b1⟩
/-- what a call of an instance method wants of the tables -/
def CV (own : String) (idx : Nat) (C : String) (y : MethodName) (bytes : ByteArray) (maxL : Nat) (ret : Option FieldType) (n : Nat) : Prop :=
  Cond.methodLink own idx y ∈ tb ∧ Cond.instanceMethod y ∈ tb ∧ Cond.selects C y y ∈ tb ∧ Cond.initialized y.cls ∈ tb ∧ Cond.code y bytes maxL ret ∈ tb ∧ (y.cls ≠ "java/lang/invoke/MethodHandle" ∧ y.cls ≠ "java/lang/invoke/VarHandle" ∧ (parseMethodDescriptor y.desc).map (fun d => d.parameters.length) = some n)
def CS (own : String) (idx : Nat) (y : MethodName) (bytes : ByteArray) (maxL : Nat) (ret : Option FieldType) (n : Nat) : Prop :=
  Cond.methodLink own idx y ∈ tb ∧ Cond.static y ∈ tb ∧ Cond.initialized y.cls ∈ tb ∧ Cond.code y bytes maxL ret ∈ tb ∧ (y.cls ≠ "java/lang/invoke/MethodHandle" ∧ y.cls ≠ "java/lang/invoke/VarHandle" ∧ (parseMethodDescriptor y.desc).map (fun d => d.parameters.length) = some n)
def CN (own : String) (idx : Nat) (y : MethodName) (host : String) (bytes : ByteArray) (maxL : Nat) (ret : Option FieldType) (n : Nat) : Prop :=
  (own, idx, y, host) ∈ nestL ∧ Cond.static y ∈ tb ∧ Cond.initialized y.cls ∈ tb ∧ Cond.code y bytes maxL ret ∈ tb ∧ (y.cls ≠ "java/lang/invoke/MethodHandle" ∧ y.cls ≠ "java/lang/invoke/VarHandle" ∧ (parseMethodDescriptor y.desc).map (fun d => d.parameters.length) = some n)
theorem v_callV {idx c ci n maxL fr' lo' : Nat} {C : String} {T : u_T} {N : Nat} {y : MethodName} {bytes : ByteArray} {ret : Option FieldType} {fs : List Fs} {stk : List Value} (As : List Value) (r : Option Value) (M' : Mm) (hX : XOK X nL ad cs cc own fr lo) (cv : CV own idx C y bytes maxL ret n) (hm : CT ad cs y bytes maxL ret fr' lo' (.ref (ad c) :: As) M r M')
    (hc : c ∈ cs) (hsh : shp c = .inl (ci, fs)) (hcl : vwCl[ci]? = some (C, T, N)) (hn : As.length = n) (hst : stk = As.reverse ++ .ref (ad c) :: st) (hroom : fr' + 1 ≤ fr ∧ 8 + (maxL + 11) + lo' ≤ lo) (hW : (st.map fun v => v.category).sum ≤ 8) (d : decode cc pc = .ok (.invokevirtual idx, 3))
    (kk : VV X nL ad cs M' (pc + 3) lv (r.toList ++ st)) : VV X nL ad cs M pc lv stk := by
  subst hst
  obtain ⟨p, l, e, R, s, m, args, below, meth, co, D, cy, A, kc, ks, Q⟩ := X
  obtain ⟨hx, hb, hml, hown, hts, hK, hD, hr⟩ := hX
  obtain ⟨w1, w2, w3, w4, w5, w6⟩ := cv
  obtain ⟨q0, hq⟩ := List.mem_iff_getElem?.mp hc
  intro H locs ls hP hS hl
  have he := wl_at (cy := cy) (ad := ad) (M := M) hq
  rw [hsh] at he
  refine v_run (va_runV (As := As) (rest := st) (Ts := tb) (C := C) ⟨hx, hb, hml, hown, hts⟩ (hm l D cy) ⟨callB_of n hts (goodIn_tb w5) rfl rfl rfl (hts _ w4) (hts _ w1) w6 ⟨Nat.le_trans hroom.1 hr.1, Nat.le_trans hroom.2 hr.2.1⟩, hts _ w2, hts _ w3⟩ ⟨CT.blind, va_recv hK.1 hP hcl he, fun U hU hW => ⟨rfl, by rw [hU]; exact hP, hK.warm hW, hD.1, fun _ _ => trivial⟩⟩ rfl hn hl.1 rfl (lv_room hW) d ⟨hr.2.2.1, hr.2.2.2⟩) hD hS hl kk
theorem v_callS {idx n maxL fr' lo' : Nat} {y : MethodName} {bytes : ByteArray} {ret : Option FieldType} {stk : List Value} (As : List Value) (r : Option Value) (M' : Mm) (hX : XOK X nL ad cs cc own fr lo) (cv : CS own idx y bytes maxL ret n) (hm : CT ad cs y bytes maxL ret fr' lo' As M r M')
    (hn : As.length = n) (hst : stk = As.reverse ++ st) (hroom : fr' + 1 ≤ fr ∧ 8 + (maxL + 11) + lo' ≤ lo) (hW : (st.map fun v => v.category).sum ≤ 8) (d : decode cc pc = .ok (.invokestatic idx, 3))
    (kk : VV X nL ad cs M' (pc + 3) lv (r.toList ++ st)) : VV X nL ad cs M pc lv stk := by
  subst hst
  obtain ⟨p, l, e, R, s, m, args, below, meth, co, D, cy, A, kc, ks, Q⟩ := X
  obtain ⟨hx, hb, hml, hown, hts, hK, hD, hr⟩ := hX
  obtain ⟨w1, w2, w4, w5, w6⟩ := cv
  intro H locs ls hP hS hl
  refine v_run (va_runS (As := As) (rest := st) (Ts := tb) ⟨hx, hb, hml, hown, hts⟩ (hm l D cy) ⟨callB_of n hts (goodIn_tb w5) rfl rfl rfl (hts _ w4) (hts _ w1) w6 ⟨Nat.le_trans hroom.1 hr.1, Nat.le_trans hroom.2 hr.2.1⟩, hts _ w2⟩ ⟨CT.blind, fun U hU hW => ⟨rfl, by rw [hU]; exact hP, hK.warm hW, hD.1, fun _ _ => trivial⟩⟩ rfl hn hl.1 rfl (lv_room hW) d ⟨hr.2.2.1, hr.2.2.2⟩) hD hS hl kk
theorem v_callN {idx n maxL fr' lo' : Nat} {y : MethodName} {host : String} {bytes : ByteArray} {ret : Option FieldType} {stk : List Value} (As : List Value) (r : Option Value) (M' : Mm) (hX : XOK X nL ad cs cc own fr lo) (cv : CN own idx y host bytes maxL ret n) (hm : CT ad cs y bytes maxL ret fr' lo' As M r M')
    (hn : As.length = n) (hst : stk = As.reverse ++ st) (hroom : fr' + 1 ≤ fr ∧ 8 + (maxL + 11) + lo' ≤ lo) (hW : (st.map fun v => v.category).sum ≤ 8) (d : decode cc pc = .ok (.invokestatic idx, 3))
    (kk : VV X nL ad cs M' (pc + 3) lv (r.toList ++ st)) : VV X nL ad cs M pc lv stk := by
  subst hst
  obtain ⟨p, l, e, R, s, m, args, below, meth, co, D, cy, A, kc, ks, Q⟩ := X
  obtain ⟨hx, hb, hml, hown, hts, hK, hD, hr⟩ := hX
  obtain ⟨w1, w2, w4, w5, w6⟩ := cv
  intro H locs ls hP hS hl
  refine v_run (va_runSN (As := As) (rest := st) (Ts := tb) ⟨hx, hb, hml, hown, hts⟩ (hm l D cy) ⟨va_cnB n hts (goodIn_tb w5) rfl rfl rfl (hK.2 _ w1) (hts _ w4) w6 ⟨Nat.le_trans hroom.1 hr.1, Nat.le_trans hroom.2 hr.2.1⟩, hts _ w2, trivial⟩ ⟨CT.blind, fun U hU hW => ⟨rfl, by rw [hU]; exact hP, hK.warm hW, hD.1, fun _ _ => trivial⟩⟩ rfl hn hl.1 rfl (lv_room hW) d ⟨hr.2.2.1, hr.2.2.2⟩) hD hS hl kk
end VC
def gd {α : Type} (c : Prop) [Decidable c] (x : Option α) : Option α := if c then x else none
def bd {α β : Type} (e : α) (k : α → Option β) : Option β := k e
def b1 {α β : Type} (x : Option α) (k : α → Option β) : Option β := x.bind k
def b2 {α β γ : Type} (x : Option (α × β)) (k : α → β → Option γ) : Option γ := x.bind fun q => k q.1 q.2
def b3 {α β γ δ : Type} (x : Option (α × β × γ)) (k : α → β → γ → Option δ) : Option δ := x.bind fun q => k q.1 q.2.1 q.2.2
def b4 {α β γ δ ε : Type} (x : Option (α × β × γ × δ)) (k : α → β → γ → δ → Option ε) : Option ε := x.bind fun q => k q.1 q.2.1 q.2.2.1 q.2.2.2
def b5 {α β γ δ ε ζ : Type} (x : Option (α × β × γ × δ × ε)) (k : α → β → γ → δ → ε → Option ζ) : Option ζ := x.bind fun q => k q.1 q.2.1 q.2.2.1 q.2.2.2.1 q.2.2.2.2
def bs {α β γ : Type} (x : Option (α ⊕ β)) (k : α → Option γ) (j : β → Option γ) : Option γ := x.bind fun q => Sum.elim k j q
def itr {σ ρ : Type} (body : σ → Option (σ ⊕ ρ)) : Nat → σ → Option ρ
  | 0, _ => none
  | n + 1, s => (body s).bind fun q => Sum.elim (itr body n) some q
def u2 {α β γ : Type} (f : α → β → γ) : α × β → γ := fun q => f q.1 q.2
def u3 {α β γ δ : Type} (f : α → β → γ → δ) : α × β × γ → δ := fun q => f q.1 q.2.1 q.2.2
def u4 {α β γ δ ε : Type} (f : α → β → γ → δ → ε) : α × β × γ × δ → ε := fun q => f q.1 q.2.1 q.2.2.1 q.2.2.2
def u5 {α β γ δ ε ζ : Type} (f : α → β → γ → δ → ε → ζ) : α × β × γ × δ × ε → ζ := fun q => f q.1 q.2.1 q.2.2.1 q.2.2.2.1 q.2.2.2.2
theorem gd_e {α : Type} {c : Prop} [Decidable c] {x : Option α} {q : α} (h : gd c x = some q) : c ∧ x = some q := by
  unfold gd at h
  by_cases hc : c
  · rw [if_pos hc] at h; exact ⟨hc, h⟩
  · rw [if_neg hc] at h; cases h
theorem bd_e {α β : Type} {e : α} {k : α → Option β} {q : β} (h : bd e k = some q) : ∃ v, v = e ∧ k v = some q := ⟨e, rfl, h⟩
theorem b1_e {α β : Type} {x : Option α} {k : α → Option β} {q : β} (h : b1 x k = some q) : ∃ v, x = some v ∧ k v = some q := Option.bind_eq_some_iff.mp h
theorem b2_e {α β γ : Type} {x : Option (α × β)} {k : α → β → Option γ} {q : γ} (h : b2 x k = some q) : ∃ a b, x = some (a, b) ∧ k a b = some q := by
  obtain ⟨⟨a, b⟩, h1, h2⟩ := Option.bind_eq_some_iff.mp h; exact ⟨a, b, h1, h2⟩
theorem b3_e {α β γ δ : Type} {x : Option (α × β × γ)} {k : α → β → γ → Option δ} {q : δ} (h : b3 x k = some q) : ∃ a b c, x = some (a, b, c) ∧ k a b c = some q := by
  obtain ⟨⟨a, b, c⟩, h1, h2⟩ := Option.bind_eq_some_iff.mp h; exact ⟨a, b, c, h1, h2⟩
theorem b4_e {α β γ δ ε : Type} {x : Option (α × β × γ × δ)} {k : α → β → γ → δ → Option ε} {q : ε} (h : b4 x k = some q) : ∃ a b c d, x = some (a, b, c, d) ∧ k a b c d = some q := by
  obtain ⟨⟨a, b, c, d⟩, h1, h2⟩ := Option.bind_eq_some_iff.mp h; exact ⟨a, b, c, d, h1, h2⟩
theorem b5_e {α β γ δ ε ζ : Type} {x : Option (α × β × γ × δ × ε)} {k : α → β → γ → δ → ε → Option ζ} {q : ζ} (h : b5 x k = some q) : ∃ a b c d e, x = some (a, b, c, d, e) ∧ k a b c d e = some q := by
  obtain ⟨⟨a, b, c, d, e⟩, h1, h2⟩ := Option.bind_eq_some_iff.mp h; exact ⟨a, b, c, d, e, h1, h2⟩
theorem bs_e {α β γ : Type} {x : Option (α ⊕ β)} {k : α → Option γ} {j : β → Option γ} {q : γ} (h : bs x k j = some q) : (∃ a, x = some (.inl a) ∧ k a = some q) ∨ (∃ b, x = some (.inr b) ∧ j b = some q) := by
  obtain ⟨a | b, h1, h2⟩ := Option.bind_eq_some_iff.mp h
  · exact Or.inl ⟨a, h1, h2⟩
  · exact Or.inr ⟨b, h1, h2⟩
theorem if_t {α : Type} {c : Prop} [Decidable c] {a b : α} {q : α} (h : (if c then a else b) = q) (hc : c) : a = q := by rw [if_pos hc] at h; exact h
theorem if_f {α : Type} {c : Prop} [Decidable c] {a b : α} {q : α} (h : (if c then a else b) = q) (hc : ¬ c) : b = q := by rw [if_neg hc] at h; exact h
/-- a loop of the machine by a loop of numbers -/
theorem v_itr {σ ρ : Type} (body : σ → Option (σ ⊕ ρ)) (In : σ → Prop) (Out : ρ → Prop) (hb : ∀ s q, body s = some q → Sum.elim In Out q → In s) : ∀ (n : Nat) (s : σ) (r : ρ), itr body n s = some r → Out r → In s := by
  intro n
  induction n with
  | zero => intro s r h; cases h
  | succ n ih =>
    intro s r h ho
    obtain ⟨q, h1, h2⟩ := Option.bind_eq_some_iff.mp h
    cases q with
    | inl s' => exact hb s _ h1 (ih s' r h2 ho)
    | inr r' => cases h2; exact hb s _ h1 ho
end
section
theorem fl_7_18 : FL RX7 18 7 0 := ⟨RX7, TX7, 3, rfl, by decide, uw_7, (mw 91 (by decide +kernel) (by decide +kernel))⟩
theorem pl_7_18 : PL RX7 18 7 0 .int := ⟨RX7, TX7, 3, tyX7, rfl, by decide, uw_7, (mw 91 (by decide +kernel) (by decide +kernel)), tyX7_ok, nmX7, rfl, (by decide +kernel)⟩
theorem fl_6_49 : FL RX6 49 7 0 := ⟨RX7, TX7, 3, rfl, by decide, uw_7, (mw 92 (by decide +kernel) (by decide +kernel))⟩
theorem pl_6_49 : PL RX6 49 7 0 .int := ⟨RX7, TX7, 3, tyX7, rfl, by decide, uw_7, (mw 92 (by decide +kernel) (by decide +kernel)), tyX7_ok, nmX7, rfl, (by decide +kernel)⟩
theorem fl_8_29 : FL RX8 29 7 0 := ⟨RX7, TX7, 3, rfl, by decide, uw_7, (mw 93 (by decide +kernel) (by decide +kernel))⟩
theorem pl_8_29 : PL RX8 29 7 0 .int := ⟨RX7, TX7, 3, tyX7, rfl, by decide, uw_7, (mw 93 (by decide +kernel) (by decide +kernel)), tyX7_ok, nmX7, rfl, (by decide +kernel)⟩
theorem fl_10_83 : FL RX10 83 7 0 := ⟨RX7, TX7, 3, rfl, by decide, uw_7, (mw 94 (by decide +kernel) (by decide +kernel))⟩
theorem pl_10_83 : PL RX10 83 7 0 .int := ⟨RX7, TX7, 3, tyX7, rfl, by decide, uw_7, (mw 94 (by decide +kernel) (by decide +kernel)), tyX7_ok, nmX7, rfl, (by decide +kernel)⟩
theorem fl_7_9 : FL RX7 9 7 1 := ⟨RX7, TX7, 3, rfl, by decide, uw_7, (mw 95 (by decide +kernel) (by decide +kernel))⟩
theorem fl_10_94 : FL RX10 94 7 1 := ⟨RX7, TX7, 3, rfl, by decide, uw_7, (mw 96 (by decide +kernel) (by decide +kernel))⟩
theorem fl_7_15 : FL RX7 15 7 2 := ⟨RX7, TX7, 3, rfl, by decide, uw_7, (mw 97 (by decide +kernel) (by decide +kernel))⟩
theorem fl_10_179 : FL RX10 179 7 2 := ⟨RX7, TX7, 3, rfl, by decide, uw_7, (mw 98 (by decide +kernel) (by decide +kernel))⟩
theorem fl_0_9 : FL RX0 9 0 0 := ⟨RX0, TX0, 2, rfl, by decide, uw_0, (mw 113 (by decide +kernel) (by decide +kernel))⟩
theorem fl_10_109 : FL RX10 109 0 0 := ⟨RX0, TX0, 2, rfl, by decide, uw_0, (mw 114 (by decide +kernel) (by decide +kernel))⟩
theorem fl_0_15 : FL RX0 15 0 1 := ⟨RX0, TX0, 2, rfl, by decide, uw_0, (mw 115 (by decide +kernel) (by decide +kernel))⟩
theorem fl_10_114 : FL RX10 114 0 1 := ⟨RX0, TX0, 2, rfl, by decide, uw_0, (mw 116 (by decide +kernel) (by decide +kernel))⟩
theorem fl_1_18 : FL RX1 18 1 0 := ⟨RX1, TX1, 3, rfl, by decide, uw_1, (mw 128 (by decide +kernel) (by decide +kernel))⟩
theorem pl_1_18 : PL RX1 18 1 0 .int := ⟨RX1, TX1, 3, tyX1, rfl, by decide, uw_1, (mw 128 (by decide +kernel) (by decide +kernel)), tyX1_ok, nmX1, rfl, (by decide +kernel)⟩
theorem fl_9_38 : FL RX9 38 1 0 := ⟨RX1, TX1, 3, rfl, by decide, uw_1, (mw 129 (by decide +kernel) (by decide +kernel))⟩
theorem pl_9_38 : PL RX9 38 1 0 .int := ⟨RX1, TX1, 3, tyX1, rfl, by decide, uw_1, (mw 129 (by decide +kernel) (by decide +kernel)), tyX1_ok, nmX1, rfl, (by decide +kernel)⟩
theorem fl_5_34 : FL RX5 34 1 0 := ⟨RX1, TX1, 3, rfl, by decide, uw_1, (mw 130 (by decide +kernel) (by decide +kernel))⟩
theorem pl_5_34 : PL RX5 34 1 0 .int := ⟨RX1, TX1, 3, tyX1, rfl, by decide, uw_1, (mw 130 (by decide +kernel) (by decide +kernel)), tyX1_ok, nmX1, rfl, (by decide +kernel)⟩
theorem fl_10_134 : FL RX10 134 1 0 := ⟨RX1, TX1, 3, rfl, by decide, uw_1, (mw 131 (by decide +kernel) (by decide +kernel))⟩
theorem pl_10_134 : PL RX10 134 1 0 .int := ⟨RX1, TX1, 3, tyX1, rfl, by decide, uw_1, (mw 131 (by decide +kernel) (by decide +kernel)), tyX1_ok, nmX1, rfl, (by decide +kernel)⟩
theorem fl_6_90 : FL RX6 90 1 0 := ⟨RX1, TX1, 3, rfl, by decide, uw_1, (mw 132 (by decide +kernel) (by decide +kernel))⟩
theorem pl_6_90 : PL RX6 90 1 0 .int := ⟨RX1, TX1, 3, tyX1, rfl, by decide, uw_1, (mw 132 (by decide +kernel) (by decide +kernel)), tyX1_ok, nmX1, rfl, (by decide +kernel)⟩
theorem fl_1_9 : FL RX1 9 1 1 := ⟨RX1, TX1, 3, rfl, by decide, uw_1, (mw 133 (by decide +kernel) (by decide +kernel))⟩
theorem fl_5_37 : FL RX5 37 1 1 := ⟨RX1, TX1, 3, rfl, by decide, uw_1, (mw 134 (by decide +kernel) (by decide +kernel))⟩
theorem fl_6_95 : FL RX6 95 1 1 := ⟨RX1, TX1, 3, rfl, by decide, uw_1, (mw 135 (by decide +kernel) (by decide +kernel))⟩
theorem fl_10_185 : FL RX10 185 1 1 := ⟨RX1, TX1, 3, rfl, by decide, uw_1, (mw 136 (by decide +kernel) (by decide +kernel))⟩
theorem fl_1_15 : FL RX1 15 1 2 := ⟨RX1, TX1, 3, rfl, by decide, uw_1, (mw 137 (by decide +kernel) (by decide +kernel))⟩
theorem fl_6_124 : FL RX6 124 1 2 := ⟨RX1, TX1, 3, rfl, by decide, uw_1, (mw 138 (by decide +kernel) (by decide +kernel))⟩
theorem fl_10_182 : FL RX10 182 1 2 := ⟨RX1, TX1, 3, rfl, by decide, uw_1, (mw 139 (by decide +kernel) (by decide +kernel))⟩
theorem fl_4_9 : FL RX4 9 4 0 := ⟨RX4, TX4, 9, rfl, by decide, uw_4, (mw 153 (by decide +kernel) (by decide +kernel))⟩
theorem fl_3_35 : FL RX3 35 4 0 := ⟨RX4, TX4, 9, rfl, by decide, uw_4, (mw 154 (by decide +kernel) (by decide +kernel))⟩
theorem fl_6_79 : FL RX6 79 4 0 := ⟨RX4, TX4, 9, rfl, by decide, uw_4, (mw 155 (by decide +kernel) (by decide +kernel))⟩
theorem fl_10_188 : FL RX10 188 4 0 := ⟨RX4, TX4, 9, rfl, by decide, uw_4, (mw 156 (by decide +kernel) (by decide +kernel))⟩
theorem fl_4_22 : FL RX4 22 4 1 := ⟨RX4, TX4, 9, rfl, by decide, uw_4, (mw 157 (by decide +kernel) (by decide +kernel))⟩
theorem pl_4_22 : PL RX4 22 4 1 .int := ⟨RX4, TX4, 9, tyX4, rfl, by decide, uw_4, (mw 157 (by decide +kernel) (by decide +kernel)), tyX4_ok, nmX4, rfl, (by decide +kernel)⟩
theorem fl_3_40 : FL RX3 40 4 1 := ⟨RX4, TX4, 9, rfl, by decide, uw_4, (mw 158 (by decide +kernel) (by decide +kernel))⟩
theorem pl_3_40 : PL RX3 40 4 1 .int := ⟨RX4, TX4, 9, tyX4, rfl, by decide, uw_4, (mw 158 (by decide +kernel) (by decide +kernel)), tyX4_ok, nmX4, rfl, (by decide +kernel)⟩
theorem fl_6_101 : FL RX6 101 4 1 := ⟨RX4, TX4, 9, rfl, by decide, uw_4, (mw 159 (by decide +kernel) (by decide +kernel))⟩
theorem pl_6_101 : PL RX6 101 4 1 .int := ⟨RX4, TX4, 9, tyX4, rfl, by decide, uw_4, (mw 159 (by decide +kernel) (by decide +kernel)), tyX4_ok, nmX4, rfl, (by decide +kernel)⟩
theorem fl_10_191 : FL RX10 191 4 1 := ⟨RX4, TX4, 9, rfl, by decide, uw_4, (mw 160 (by decide +kernel) (by decide +kernel))⟩
theorem pl_10_191 : PL RX10 191 4 1 .int := ⟨RX4, TX4, 9, tyX4, rfl, by decide, uw_4, (mw 160 (by decide +kernel) (by decide +kernel)), tyX4_ok, nmX4, rfl, (by decide +kernel)⟩
theorem fl_4_26 : FL RX4 26 4 2 := ⟨RX4, TX4, 9, rfl, by decide, uw_4, (mw 161 (by decide +kernel) (by decide +kernel))⟩
theorem pl_4_26 : PL RX4 26 4 2 .int := ⟨RX4, TX4, 9, tyX4, rfl, by decide, uw_4, (mw 161 (by decide +kernel) (by decide +kernel)), tyX4_ok, nmX4, rfl, (by decide +kernel)⟩
theorem fl_6_114 : FL RX6 114 4 2 := ⟨RX4, TX4, 9, rfl, by decide, uw_4, (mw 162 (by decide +kernel) (by decide +kernel))⟩
theorem pl_6_114 : PL RX6 114 4 2 .int := ⟨RX4, TX4, 9, tyX4, rfl, by decide, uw_4, (mw 162 (by decide +kernel) (by decide +kernel)), tyX4_ok, nmX4, rfl, (by decide +kernel)⟩
theorem fl_10_194 : FL RX10 194 4 2 := ⟨RX4, TX4, 9, rfl, by decide, uw_4, (mw 163 (by decide +kernel) (by decide +kernel))⟩
theorem pl_10_194 : PL RX10 194 4 2 .int := ⟨RX4, TX4, 9, tyX4, rfl, by decide, uw_4, (mw 163 (by decide +kernel) (by decide +kernel)), tyX4_ok, nmX4, rfl, (by decide +kernel)⟩
theorem fl_4_29 : FL RX4 29 4 3 := ⟨RX4, TX4, 9, rfl, by decide, uw_4, (mw 164 (by decide +kernel) (by decide +kernel))⟩
theorem pl_4_29 : PL RX4 29 4 3 .int := ⟨RX4, TX4, 9, tyX4, rfl, by decide, uw_4, (mw 164 (by decide +kernel) (by decide +kernel)), tyX4_ok, nmX4, rfl, (by decide +kernel)⟩
theorem fl_10_197 : FL RX10 197 4 3 := ⟨RX4, TX4, 9, rfl, by decide, uw_4, (mw 165 (by decide +kernel) (by decide +kernel))⟩
theorem pl_10_197 : PL RX10 197 4 3 .int := ⟨RX4, TX4, 9, tyX4, rfl, by decide, uw_4, (mw 165 (by decide +kernel) (by decide +kernel)), tyX4_ok, nmX4, rfl, (by decide +kernel)⟩
theorem fl_4_32 : FL RX4 32 4 4 := ⟨RX4, TX4, 9, rfl, by decide, uw_4, (mw 166 (by decide +kernel) (by decide +kernel))⟩
theorem pl_4_32 : PL RX4 32 4 4 .int := ⟨RX4, TX4, 9, tyX4, rfl, by decide, uw_4, (mw 166 (by decide +kernel) (by decide +kernel)), tyX4_ok, nmX4, rfl, (by decide +kernel)⟩
theorem fl_6_117 : FL RX6 117 4 4 := ⟨RX4, TX4, 9, rfl, by decide, uw_4, (mw 167 (by decide +kernel) (by decide +kernel))⟩
theorem pl_6_117 : PL RX6 117 4 4 .int := ⟨RX4, TX4, 9, tyX4, rfl, by decide, uw_4, (mw 167 (by decide +kernel) (by decide +kernel)), tyX4_ok, nmX4, rfl, (by decide +kernel)⟩
theorem fl_10_200 : FL RX10 200 4 4 := ⟨RX4, TX4, 9, rfl, by decide, uw_4, (mw 168 (by decide +kernel) (by decide +kernel))⟩
theorem pl_10_200 : PL RX10 200 4 4 .int := ⟨RX4, TX4, 9, tyX4, rfl, by decide, uw_4, (mw 168 (by decide +kernel) (by decide +kernel)), tyX4_ok, nmX4, rfl, (by decide +kernel)⟩
theorem fl_4_35 : FL RX4 35 4 5 := ⟨RX4, TX4, 9, rfl, by decide, uw_4, (mw 169 (by decide +kernel) (by decide +kernel))⟩
theorem pl_4_35 : PL RX4 35 4 5 .int := ⟨RX4, TX4, 9, tyX4, rfl, by decide, uw_4, (mw 169 (by decide +kernel) (by decide +kernel)), tyX4_ok, nmX4, rfl, (by decide +kernel)⟩
theorem fl_6_98 : FL RX6 98 4 5 := ⟨RX4, TX4, 9, rfl, by decide, uw_4, (mw 170 (by decide +kernel) (by decide +kernel))⟩
theorem pl_6_98 : PL RX6 98 4 5 .int := ⟨RX4, TX4, 9, tyX4, rfl, by decide, uw_4, (mw 170 (by decide +kernel) (by decide +kernel)), tyX4_ok, nmX4, rfl, (by decide +kernel)⟩
theorem fl_10_203 : FL RX10 203 4 5 := ⟨RX4, TX4, 9, rfl, by decide, uw_4, (mw 171 (by decide +kernel) (by decide +kernel))⟩
theorem pl_10_203 : PL RX10 203 4 5 .int := ⟨RX4, TX4, 9, tyX4, rfl, by decide, uw_4, (mw 171 (by decide +kernel) (by decide +kernel)), tyX4_ok, nmX4, rfl, (by decide +kernel)⟩
theorem fl_4_38 : FL RX4 38 4 6 := ⟨RX4, TX4, 9, rfl, by decide, uw_4, (mw 172 (by decide +kernel) (by decide +kernel))⟩
theorem pl_4_38 : PL RX4 38 4 6 .int := ⟨RX4, TX4, 9, tyX4, rfl, by decide, uw_4, (mw 172 (by decide +kernel) (by decide +kernel)), tyX4_ok, nmX4, rfl, (by decide +kernel)⟩
theorem fl_10_206 : FL RX10 206 4 6 := ⟨RX4, TX4, 9, rfl, by decide, uw_4, (mw 173 (by decide +kernel) (by decide +kernel))⟩
theorem pl_10_206 : PL RX10 206 4 6 .int := ⟨RX4, TX4, 9, tyX4, rfl, by decide, uw_4, (mw 173 (by decide +kernel) (by decide +kernel)), tyX4_ok, nmX4, rfl, (by decide +kernel)⟩
theorem fl_4_15 : FL RX4 15 4 7 := ⟨RX4, TX4, 9, rfl, by decide, uw_4, (mw 174 (by decide +kernel) (by decide +kernel))⟩
theorem fl_10_209 : FL RX10 209 4 7 := ⟨RX4, TX4, 9, rfl, by decide, uw_4, (mw 175 (by decide +kernel) (by decide +kernel))⟩
theorem fl_4_41 : FL RX4 41 4 8 := ⟨RX4, TX4, 9, rfl, by decide, uw_4, (mw 176 (by decide +kernel) (by decide +kernel))⟩
theorem pl_4_41 : PL RX4 41 4 8 .boolean := ⟨RX4, TX4, 9, tyX4, rfl, by decide, uw_4, (mw 176 (by decide +kernel) (by decide +kernel)), tyX4_ok, nmX4, rfl, (by decide +kernel)⟩
theorem fl_10_167 : FL RX10 167 4 8 := ⟨RX4, TX4, 9, rfl, by decide, uw_4, (mw 177 (by decide +kernel) (by decide +kernel))⟩
theorem pl_10_167 : PL RX10 167 4 8 .boolean := ⟨RX4, TX4, 9, tyX4, rfl, by decide, uw_4, (mw 177 (by decide +kernel) (by decide +kernel)), tyX4_ok, nmX4, rfl, (by decide +kernel)⟩
theorem fl_3_15 : FL RX3 15 6 0 := ⟨RX6, TX6, 7, rfl, by decide, uw_6, (mw 197 (by decide +kernel) (by decide +kernel))⟩
theorem pl_3_15 : PL RX3 15 6 0 .int := ⟨RX6, TX6, 7, tyX6, rfl, by decide, uw_6, (mw 197 (by decide +kernel) (by decide +kernel)), tyX6_ok, nmX6, rfl, (by decide +kernel)⟩
theorem fl_6_39 : FL RX6 39 6 0 := ⟨RX6, TX6, 7, rfl, by decide, uw_6, (mw 198 (by decide +kernel) (by decide +kernel))⟩
theorem pl_6_39 : PL RX6 39 6 0 .int := ⟨RX6, TX6, 7, tyX6, rfl, by decide, uw_6, (mw 198 (by decide +kernel) (by decide +kernel)), tyX6_ok, nmX6, rfl, (by decide +kernel)⟩
theorem fl_10_67 : FL RX10 67 6 0 := ⟨RX6, TX6, 7, rfl, by decide, uw_6, (mw 199 (by decide +kernel) (by decide +kernel))⟩
theorem pl_10_67 : PL RX10 67 6 0 .int := ⟨RX6, TX6, 7, tyX6, rfl, by decide, uw_6, (mw 199 (by decide +kernel) (by decide +kernel)), tyX6_ok, nmX6, rfl, (by decide +kernel)⟩
theorem fl_6_43 : FL RX6 43 6 1 := ⟨RX6, TX6, 7, rfl, by decide, uw_6, (mw 200 (by decide +kernel) (by decide +kernel))⟩
theorem pl_6_43 : PL RX6 43 6 1 .int := ⟨RX6, TX6, 7, tyX6, rfl, by decide, uw_6, (mw 200 (by decide +kernel) (by decide +kernel)), tyX6_ok, nmX6, rfl, (by decide +kernel)⟩
theorem fl_10_154 : FL RX10 154 6 1 := ⟨RX6, TX6, 7, rfl, by decide, uw_6, (mw 201 (by decide +kernel) (by decide +kernel))⟩
theorem pl_10_154 : PL RX10 154 6 1 .int := ⟨RX6, TX6, 7, tyX6, rfl, by decide, uw_6, (mw 201 (by decide +kernel) (by decide +kernel)), tyX6_ok, nmX6, rfl, (by decide +kernel)⟩
theorem fl_6_46 : FL RX6 46 6 2 := ⟨RX6, TX6, 7, rfl, by decide, uw_6, (mw 202 (by decide +kernel) (by decide +kernel))⟩
theorem pl_6_46 : PL RX6 46 6 2 .int := ⟨RX6, TX6, 7, tyX6, rfl, by decide, uw_6, (mw 202 (by decide +kernel) (by decide +kernel)), tyX6_ok, nmX6, rfl, (by decide +kernel)⟩
theorem fl_10_157 : FL RX10 157 6 2 := ⟨RX6, TX6, 7, rfl, by decide, uw_6, (mw 203 (by decide +kernel) (by decide +kernel))⟩
theorem pl_10_157 : PL RX10 157 6 2 .int := ⟨RX6, TX6, 7, tyX6, rfl, by decide, uw_6, (mw 203 (by decide +kernel) (by decide +kernel)), tyX6_ok, nmX6, rfl, (by decide +kernel)⟩
theorem fl_6_12 : FL RX6 12 6 3 := ⟨RX6, TX6, 7, rfl, by decide, uw_6, (mw 204 (by decide +kernel) (by decide +kernel))⟩
theorem fl_9_59 : FL RX9 59 6 3 := ⟨RX6, TX6, 7, rfl, by decide, uw_6, (mw 205 (by decide +kernel) (by decide +kernel))⟩
theorem fl_10_79 : FL RX10 79 6 3 := ⟨RX6, TX6, 7, rfl, by decide, uw_6, (mw 206 (by decide +kernel) (by decide +kernel))⟩
theorem fl_3_53 : FL RX3 53 6 3 := ⟨RX6, TX6, 7, rfl, by decide, uw_6, (mw 207 (by decide +kernel) (by decide +kernel))⟩
theorem fl_6_21 : FL RX6 21 6 4 := ⟨RX6, TX6, 7, rfl, by decide, uw_6, (mw 208 (by decide +kernel) (by decide +kernel))⟩
theorem fl_9_45 : FL RX9 45 6 4 := ⟨RX6, TX6, 7, rfl, by decide, uw_6, (mw 209 (by decide +kernel) (by decide +kernel))⟩
theorem fl_3_43 : FL RX3 43 6 4 := ⟨RX6, TX6, 7, rfl, by decide, uw_6, (mw 210 (by decide +kernel) (by decide +kernel))⟩
theorem fl_10_105 : FL RX10 105 6 4 := ⟨RX6, TX6, 7, rfl, by decide, uw_6, (mw 211 (by decide +kernel) (by decide +kernel))⟩
theorem fl_6_28 : FL RX6 28 6 5 := ⟨RX6, TX6, 7, rfl, by decide, uw_6, (mw 212 (by decide +kernel) (by decide +kernel))⟩
theorem fl_9_35 : FL RX9 35 6 5 := ⟨RX6, TX6, 7, rfl, by decide, uw_6, (mw 213 (by decide +kernel) (by decide +kernel))⟩
theorem fl_10_125 : FL RX10 125 6 5 := ⟨RX6, TX6, 7, rfl, by decide, uw_6, (mw 214 (by decide +kernel) (by decide +kernel))⟩
theorem fl_6_35 : FL RX6 35 6 6 := ⟨RX6, TX6, 7, rfl, by decide, uw_6, (mw 215 (by decide +kernel) (by decide +kernel))⟩
theorem fl_3_31 : FL RX3 31 6 6 := ⟨RX6, TX6, 7, rfl, by decide, uw_6, (mw 216 (by decide +kernel) (by decide +kernel))⟩
theorem fl_10_139 : FL RX10 139 6 6 := ⟨RX6, TX6, 7, rfl, by decide, uw_6, (mw 217 (by decide +kernel) (by decide +kernel))⟩
theorem fl_2_31 : FL RX2 31 2 0 := ⟨RX2, TX2, 5, rfl, by decide, uw_2, (mw 269 (by decide +kernel) (by decide +kernel))⟩
theorem pl_2_31 : PL RX2 31 2 0 .int := ⟨RX2, TX2, 5, tyX2, rfl, by decide, uw_2, (mw 269 (by decide +kernel) (by decide +kernel)), tyX2_ok, nmX2, rfl, (by decide +kernel)⟩
theorem fl_10_212 : FL RX10 212 2 0 := ⟨RX2, TX2, 5, rfl, by decide, uw_2, (mw 270 (by decide +kernel) (by decide +kernel))⟩
theorem pl_10_212 : PL RX10 212 2 0 .int := ⟨RX2, TX2, 5, tyX2, rfl, by decide, uw_2, (mw 270 (by decide +kernel) (by decide +kernel)), tyX2_ok, nmX2, rfl, (by decide +kernel)⟩
theorem fl_2_12 : FL RX2 12 2 1 := ⟨RX2, TX2, 5, rfl, by decide, uw_2, (mw 271 (by decide +kernel) (by decide +kernel))⟩
theorem fl_2_18 : FL RX2 18 2 2 := ⟨RX2, TX2, 5, rfl, by decide, uw_2, (mw 272 (by decide +kernel) (by decide +kernel))⟩
theorem fl_2_21 : FL RX2 21 2 3 := ⟨RX2, TX2, 5, rfl, by decide, uw_2, (mw 273 (by decide +kernel) (by decide +kernel))⟩
theorem fl_2_24 : FL RX2 24 2 4 := ⟨RX2, TX2, 5, rfl, by decide, uw_2, (mw 274 (by decide +kernel) (by decide +kernel))⟩
theorem fl_8_25 : FL RX8 25 8 0 := ⟨RX8, TX8, 10, rfl, by decide, uw_8, (mw 294 (by decide +kernel) (by decide +kernel))⟩
theorem pl_8_25 : PL RX8 25 8 0 .int := ⟨RX8, TX8, 10, tyX8, rfl, by decide, uw_8, (mw 294 (by decide +kernel) (by decide +kernel)), tyX8_ok, nmX8, rfl, (by decide +kernel)⟩
theorem fl_10_213 : FL RX10 213 8 0 := ⟨RX8, TX8, 10, rfl, by decide, uw_8, (mw 295 (by decide +kernel) (by decide +kernel))⟩
theorem pl_10_213 : PL RX10 213 8 0 .int := ⟨RX8, TX8, 10, tyX8, rfl, by decide, uw_8, (mw 295 (by decide +kernel) (by decide +kernel)), tyX8_ok, nmX8, rfl, (by decide +kernel)⟩
theorem fl_8_9 : FL RX8 9 8 1 := ⟨RX8, TX8, 10, rfl, by decide, uw_8, (mw 296 (by decide +kernel) (by decide +kernel))⟩
theorem fl_8_18 : FL RX8 18 8 2 := ⟨RX8, TX8, 10, rfl, by decide, uw_8, (mw 297 (by decide +kernel) (by decide +kernel))⟩
theorem fl_10_261 : FL RX10 261 8 2 := ⟨RX8, TX8, 10, rfl, by decide, uw_8, (mw 298 (by decide +kernel) (by decide +kernel))⟩
theorem fl_8_32 : FL RX8 32 8 3 := ⟨RX8, TX8, 10, rfl, by decide, uw_8, (mw 299 (by decide +kernel) (by decide +kernel))⟩
theorem pl_8_32 : PL RX8 32 8 3 .int := ⟨RX8, TX8, 10, tyX8, rfl, by decide, uw_8, (mw 299 (by decide +kernel) (by decide +kernel)), tyX8_ok, nmX8, rfl, (by decide +kernel)⟩
theorem fl_10_255 : FL RX10 255 8 3 := ⟨RX8, TX8, 10, rfl, by decide, uw_8, (mw 300 (by decide +kernel) (by decide +kernel))⟩
theorem pl_10_255 : PL RX10 255 8 3 .int := ⟨RX8, TX8, 10, tyX8, rfl, by decide, uw_8, (mw 300 (by decide +kernel) (by decide +kernel)), tyX8_ok, nmX8, rfl, (by decide +kernel)⟩
theorem fl_8_35 : FL RX8 35 8 4 := ⟨RX8, TX8, 10, rfl, by decide, uw_8, (mw 301 (by decide +kernel) (by decide +kernel))⟩
theorem pl_8_35 : PL RX8 35 8 4 .int := ⟨RX8, TX8, 10, tyX8, rfl, by decide, uw_8, (mw 301 (by decide +kernel) (by decide +kernel)), tyX8_ok, nmX8, rfl, (by decide +kernel)⟩
theorem fl_10_258 : FL RX10 258 8 4 := ⟨RX8, TX8, 10, rfl, by decide, uw_8, (mw 302 (by decide +kernel) (by decide +kernel))⟩
theorem pl_10_258 : PL RX10 258 8 4 .int := ⟨RX8, TX8, 10, tyX8, rfl, by decide, uw_8, (mw 302 (by decide +kernel) (by decide +kernel)), tyX8_ok, nmX8, rfl, (by decide +kernel)⟩
theorem fl_8_80 : FL RX8 80 8 5 := ⟨RX8, TX8, 10, rfl, by decide, uw_8, (mw 303 (by decide +kernel) (by decide +kernel))⟩
theorem pl_8_80 : PL RX8 80 8 5 .boolean := ⟨RX8, TX8, 10, tyX8, rfl, by decide, uw_8, (mw 303 (by decide +kernel) (by decide +kernel)), tyX8_ok, nmX8, rfl, (by decide +kernel)⟩
theorem fl_8_70 : FL RX8 70 8 6 := ⟨RX8, TX8, 10, rfl, by decide, uw_8, (mw 304 (by decide +kernel) (by decide +kernel))⟩
theorem pl_8_70 : PL RX8 70 8 6 .int := ⟨RX8, TX8, 10, tyX8, rfl, by decide, uw_8, (mw 304 (by decide +kernel) (by decide +kernel)), tyX8_ok, nmX8, rfl, (by decide +kernel)⟩
theorem fl_8_73 : FL RX8 73 8 7 := ⟨RX8, TX8, 10, rfl, by decide, uw_8, (mw 305 (by decide +kernel) (by decide +kernel))⟩
theorem pl_8_73 : PL RX8 73 8 7 .int := ⟨RX8, TX8, 10, tyX8, rfl, by decide, uw_8, (mw 305 (by decide +kernel) (by decide +kernel)), tyX8_ok, nmX8, rfl, (by decide +kernel)⟩
theorem fl_8_67 : FL RX8 67 8 8 := ⟨RX8, TX8, 10, rfl, by decide, uw_8, (mw 306 (by decide +kernel) (by decide +kernel))⟩
theorem pl_8_67 : PL RX8 67 8 8 .int := ⟨RX8, TX8, 10, tyX8, rfl, by decide, uw_8, (mw 306 (by decide +kernel) (by decide +kernel)), tyX8_ok, nmX8, rfl, (by decide +kernel)⟩
theorem fl_8_22 : FL RX8 22 8 9 := ⟨RX8, TX8, 10, rfl, by decide, uw_8, (mw 307 (by decide +kernel) (by decide +kernel))⟩
theorem fl_9_22 : FL RX9 22 9 0 := ⟨RX9, TX9, 6, rfl, by decide, uw_9, (mw 335 (by decide +kernel) (by decide +kernel))⟩
theorem pl_9_22 : PL RX9 22 9 0 .int := ⟨RX9, TX9, 6, tyX9, rfl, by decide, uw_9, (mw 335 (by decide +kernel) (by decide +kernel)), tyX9_ok, nmX9, rfl, (by decide +kernel)⟩
theorem fl_10_224 : FL RX10 224 9 0 := ⟨RX9, TX9, 6, rfl, by decide, uw_9, (mw 336 (by decide +kernel) (by decide +kernel))⟩
theorem pl_10_224 : PL RX10 224 9 0 .int := ⟨RX9, TX9, 6, tyX9, rfl, by decide, uw_9, (mw 336 (by decide +kernel) (by decide +kernel)), tyX9_ok, nmX9, rfl, (by decide +kernel)⟩
theorem fl_9_9 : FL RX9 9 9 1 := ⟨RX9, TX9, 6, rfl, by decide, uw_9, (mw 337 (by decide +kernel) (by decide +kernel))⟩
theorem fl_10_225 : FL RX10 225 9 1 := ⟨RX9, TX9, 6, rfl, by decide, uw_9, (mw 338 (by decide +kernel) (by decide +kernel))⟩
theorem fl_9_15 : FL RX9 15 9 2 := ⟨RX9, TX9, 6, rfl, by decide, uw_9, (mw 339 (by decide +kernel) (by decide +kernel))⟩
theorem fl_9_19 : FL RX9 19 9 3 := ⟨RX9, TX9, 6, rfl, by decide, uw_9, (mw 340 (by decide +kernel) (by decide +kernel))⟩
theorem fl_9_32 : FL RX9 32 9 4 := ⟨RX9, TX9, 6, rfl, by decide, uw_9, (mw 341 (by decide +kernel) (by decide +kernel))⟩
theorem pl_9_32 : PL RX9 32 9 4 .long := ⟨RX9, TX9, 6, tyX9, rfl, by decide, uw_9, (mw 341 (by decide +kernel) (by decide +kernel)), tyX9_ok, nmX9, rfl, (by decide +kernel)⟩
theorem fl_9_76 : FL RX9 76 9 5 := ⟨RX9, TX9, 6, rfl, by decide, uw_9, (mw 342 (by decide +kernel) (by decide +kernel))⟩
theorem pl_9_76 : PL RX9 76 9 5 .int := ⟨RX9, TX9, 6, tyX9, rfl, by decide, uw_9, (mw 342 (by decide +kernel) (by decide +kernel)), tyX9_ok, nmX9, rfl, (by decide +kernel)⟩
theorem fl_6_120 : FL RX6 120 9 5 := ⟨RX9, TX9, 6, rfl, by decide, uw_9, (mw 343 (by decide +kernel) (by decide +kernel))⟩
theorem pl_6_120 : PL RX6 120 9 5 .int := ⟨RX9, TX9, 6, tyX9, rfl, by decide, uw_9, (mw 343 (by decide +kernel) (by decide +kernel)), tyX9_ok, nmX9, rfl, (by decide +kernel)⟩
theorem fl_3_9 : FL RX3 9 3 0 := ⟨RX3, TX3, 2, rfl, by decide, uw_3, (mw 364 (by decide +kernel) (by decide +kernel))⟩
theorem fl_10_240 : FL RX10 240 3 0 := ⟨RX3, TX3, 2, rfl, by decide, uw_3, (mw 365 (by decide +kernel) (by decide +kernel))⟩
theorem fl_3_23 : FL RX3 23 3 1 := ⟨RX3, TX3, 2, rfl, by decide, uw_3, (mw 366 (by decide +kernel) (by decide +kernel))⟩
theorem pl_3_23 : PL RX3 23 3 1 .long := ⟨RX3, TX3, 2, tyX3, rfl, by decide, uw_3, (mw 366 (by decide +kernel) (by decide +kernel)), tyX3_ok, nmX3, rfl, (by decide +kernel)⟩
theorem fl_5_22 : FL RX5 22 5 0 := ⟨RX5, TX5, 3, rfl, by decide, uw_5, (mw 378 (by decide +kernel) (by decide +kernel))⟩
theorem pl_5_22 : PL RX5 22 5 0 .int := ⟨RX5, TX5, 3, tyX5, rfl, by decide, uw_5, (mw 378 (by decide +kernel) (by decide +kernel)), tyX5_ok, nmX5, rfl, (by decide +kernel)⟩
theorem fl_5_9 : FL RX5 9 5 1 := ⟨RX5, TX5, 3, rfl, by decide, uw_5, (mw 379 (by decide +kernel) (by decide +kernel))⟩
theorem fl_5_15 : FL RX5 15 5 2 := ⟨RX5, TX5, 3, rfl, by decide, uw_5, (mw 380 (by decide +kernel) (by decide +kernel))⟩
theorem fl_10_10 : FL RX10 10 10 0 := ⟨RX10, TX10, 8, rfl, by decide, uw_10, (mw 388 (by decide +kernel) (by decide +kernel))⟩
theorem fl_10_23 : FL RX10 23 10 1 := ⟨RX10, TX10, 8, rfl, by decide, uw_10, (mw 389 (by decide +kernel) (by decide +kernel))⟩
theorem fl_10_27 : FL RX10 27 10 2 := ⟨RX10, TX10, 8, rfl, by decide, uw_10, (mw 390 (by decide +kernel) (by decide +kernel))⟩
theorem fl_10_30 : FL RX10 30 10 3 := ⟨RX10, TX10, 8, rfl, by decide, uw_10, (mw 391 (by decide +kernel) (by decide +kernel))⟩
theorem pl_10_30 : PL RX10 30 10 3 .boolean := ⟨RX10, TX10, 8, tyX10, rfl, by decide, uw_10, (mw 391 (by decide +kernel) (by decide +kernel)), tyX10_ok, nmX10, rfl, (by decide +kernel)⟩
theorem fl_10_37 : FL RX10 37 10 4 := ⟨RX10, TX10, 8, rfl, by decide, uw_10, (mw 392 (by decide +kernel) (by decide +kernel))⟩
theorem fl_10_44 : FL RX10 44 10 5 := ⟨RX10, TX10, 8, rfl, by decide, uw_10, (mw 393 (by decide +kernel) (by decide +kernel))⟩
theorem fl_10_51 : FL RX10 51 10 6 := ⟨RX10, TX10, 8, rfl, by decide, uw_10, (mw 394 (by decide +kernel) (by decide +kernel))⟩
theorem fl_10_58 : FL RX10 58 10 7 := ⟨RX10, TX10, 8, rfl, by decide, uw_10, (mw 395 (by decide +kernel) (by decide +kernel))⟩
theorem fl_11_7 : FL RX11 7 11 0 := ⟨RX11, TX11, 15, rfl, by decide, uw_11, (mw 778 (by decide +kernel) (by decide +kernel))⟩
theorem fl_11_13 : FL RX11 13 11 1 := ⟨RX11, TX11, 15, rfl, by decide, uw_11, (mw 779 (by decide +kernel) (by decide +kernel))⟩
theorem fl_11_16 : FL RX11 16 11 2 := ⟨RX11, TX11, 15, rfl, by decide, uw_11, (mw 780 (by decide +kernel) (by decide +kernel))⟩
theorem fl_11_36 : FL RX11 36 11 3 := ⟨RX11, TX11, 15, rfl, by decide, uw_11, (mw 781 (by decide +kernel) (by decide +kernel))⟩
theorem pl_11_36 : PL RX11 36 11 3 .int := ⟨RX11, TX11, 15, tyX11, rfl, by decide, uw_11, (mw 781 (by decide +kernel) (by decide +kernel)), tyX11_ok, nmX11, rfl, (by decide +kernel)⟩
theorem fl_11_41 : FL RX11 41 11 4 := ⟨RX11, TX11, 15, rfl, by decide, uw_11, (mw 782 (by decide +kernel) (by decide +kernel))⟩
theorem pl_11_41 : PL RX11 41 11 4 .boolean := ⟨RX11, TX11, 15, tyX11, rfl, by decide, uw_11, (mw 782 (by decide +kernel) (by decide +kernel)), tyX11_ok, nmX11, rfl, (by decide +kernel)⟩
theorem fl_11_19 : FL RX11 19 11 5 := ⟨RX11, TX11, 15, rfl, by decide, uw_11, (mw 783 (by decide +kernel) (by decide +kernel))⟩
theorem fl_11_152 : FL RX11 152 11 6 := ⟨RX11, TX11, 15, rfl, by decide, uw_11, (mw 784 (by decide +kernel) (by decide +kernel))⟩
theorem pl_11_152 : PL RX11 152 11 6 .int := ⟨RX11, TX11, 15, tyX11, rfl, by decide, uw_11, (mw 784 (by decide +kernel) (by decide +kernel)), tyX11_ok, nmX11, rfl, (by decide +kernel)⟩
theorem fl_11_23 : FL RX11 23 11 7 := ⟨RX11, TX11, 15, rfl, by decide, uw_11, (mw 785 (by decide +kernel) (by decide +kernel))⟩
theorem fl_11_121 : FL RX11 121 11 8 := ⟨RX11, TX11, 15, rfl, by decide, uw_11, (mw 786 (by decide +kernel) (by decide +kernel))⟩
theorem pl_11_121 : PL RX11 121 11 8 .int := ⟨RX11, TX11, 15, tyX11, rfl, by decide, uw_11, (mw 786 (by decide +kernel) (by decide +kernel)), tyX11_ok, nmX11, rfl, (by decide +kernel)⟩
theorem fl_11_26 : FL RX11 26 11 9 := ⟨RX11, TX11, 15, rfl, by decide, uw_11, (mw 787 (by decide +kernel) (by decide +kernel))⟩
theorem fl_11_29 : FL RX11 29 11 10 := ⟨RX11, TX11, 15, rfl, by decide, uw_11, (mw 788 (by decide +kernel) (by decide +kernel))⟩
theorem fl_11_188 : FL RX11 188 11 11 := ⟨RX11, TX11, 15, rfl, by decide, uw_11, (mw 789 (by decide +kernel) (by decide +kernel))⟩
theorem pl_11_188 : PL RX11 188 11 11 .int := ⟨RX11, TX11, 15, tyX11, rfl, by decide, uw_11, (mw 789 (by decide +kernel) (by decide +kernel)), tyX11_ok, nmX11, rfl, (by decide +kernel)⟩
theorem fl_11_173 : FL RX11 173 11 12 := ⟨RX11, TX11, 15, rfl, by decide, uw_11, (mw 790 (by decide +kernel) (by decide +kernel))⟩
theorem pl_11_173 : PL RX11 173 11 12 .int := ⟨RX11, TX11, 15, tyX11, rfl, by decide, uw_11, (mw 790 (by decide +kernel) (by decide +kernel)), tyX11_ok, nmX11, rfl, (by decide +kernel)⟩
theorem fl_11_176 : FL RX11 176 11 13 := ⟨RX11, TX11, 15, rfl, by decide, uw_11, (mw 791 (by decide +kernel) (by decide +kernel))⟩
theorem pl_11_176 : PL RX11 176 11 13 .int := ⟨RX11, TX11, 15, tyX11, rfl, by decide, uw_11, (mw 791 (by decide +kernel) (by decide +kernel)), tyX11_ok, nmX11, rfl, (by decide +kernel)⟩
theorem fl_11_170 : FL RX11 170 11 14 := ⟨RX11, TX11, 15, rfl, by decide, uw_11, (mw 792 (by decide +kernel) (by decide +kernel))⟩
theorem pl_11_170 : PL RX11 170 11 14 .int := ⟨RX11, TX11, 15, tyX11, rfl, by decide, uw_11, (mw 792 (by decide +kernel) (by decide +kernel)), tyX11_ok, nmX11, rfl, (by decide +kernel)⟩
theorem cv_10_16 : CV RX10 16 RX6 yX6_reset cX6_reset 2 none 1 := ⟨(mw 233 (by decide +kernel) (by decide +kernel)), (mw 234 (by decide +kernel) (by decide +kernel)), (mw 235 (by decide +kernel) (by decide +kernel)), (mw 58 (by decide +kernel) (by decide +kernel)), (mw 236 (by decide +kernel) (by decide +kernel)), ⟨(by decide +kernel), (by decide +kernel), (by decide +kernel)⟩⟩
theorem cv_6_52 : CV RX6 52 RX0 yX0_reset cX0_reset 2 none 0 := ⟨(mw 237 (by decide +kernel) (by decide +kernel)), (mw 238 (by decide +kernel) (by decide +kernel)), (mw 239 (by decide +kernel) (by decide +kernel)), (mw 60 (by decide +kernel) (by decide +kernel)), (mw 240 (by decide +kernel) (by decide +kernel)), ⟨(by decide +kernel), (by decide +kernel), (by decide +kernel)⟩⟩
theorem cv_6_55 : CV RX6 55 RX1 yX1_reset cX1_reset 3 none 1 := ⟨(mw 241 (by decide +kernel) (by decide +kernel)), (mw 242 (by decide +kernel) (by decide +kernel)), (mw 243 (by decide +kernel) (by decide +kernel)), (mw 61 (by decide +kernel) (by decide +kernel)), (mw 244 (by decide +kernel) (by decide +kernel)), ⟨(by decide +kernel), (by decide +kernel), (by decide +kernel)⟩⟩
theorem cv_1_22 : CV RX1 22 RX1 yX1_addAlong cX1_addAlong 3 none 2 := ⟨(mw 245 (by decide +kernel) (by decide +kernel)), (mw 247 (by decide +kernel) (by decide +kernel)), (mw 0 (by decide +kernel) (by decide +kernel)), (mw 61 (by decide +kernel) (by decide +kernel)), (mw 248 (by decide +kernel) (by decide +kernel)), ⟨(by decide +kernel), (by decide +kernel), (by decide +kernel)⟩⟩
theorem cv_1_26 : CV RX1 26 RX1 yX1_add cX1_add 4 none 3 := ⟨(mw 249 (by decide +kernel) (by decide +kernel)), (mw 250 (by decide +kernel) (by decide +kernel)), (mw 251 (by decide +kernel) (by decide +kernel)), (mw 61 (by decide +kernel) (by decide +kernel)), (mw 252 (by decide +kernel) (by decide +kernel)), ⟨(by decide +kernel), (by decide +kernel), (by decide +kernel)⟩⟩
theorem cv_6_58 : CV RX6 58 RX4 yX4_begin cX4_begin 5 none 4 := ⟨(mw 253 (by decide +kernel) (by decide +kernel)), (mw 254 (by decide +kernel) (by decide +kernel)), (mw 255 (by decide +kernel) (by decide +kernel)), (mw 62 (by decide +kernel) (by decide +kernel)), (mw 256 (by decide +kernel) (by decide +kernel)), ⟨(by decide +kernel), (by decide +kernel), (by decide +kernel)⟩⟩
theorem cv_4_18 : CV RX4 18 RX4 yX4_moveTo cX4_moveTo 4 none 3 := ⟨(mw 257 (by decide +kernel) (by decide +kernel)), (mw 259 (by decide +kernel) (by decide +kernel)), (mw 1 (by decide +kernel) (by decide +kernel)), (mw 62 (by decide +kernel) (by decide +kernel)), (mw 260 (by decide +kernel) (by decide +kernel)), ⟨(by decide +kernel), (by decide +kernel), (by decide +kernel)⟩⟩
theorem cv_L_13 : CV RL 13 RX10 yX10_variables cX10_variables 3 (some .int) 1 := ⟨(mw 413 (by decide +kernel) (by decide +kernel)), (mw 414 (by decide +kernel) (by decide +kernel)), (mw 415 (by decide +kernel) (by decide +kernel)), (mw 57 (by decide +kernel) (by decide +kernel)), (mw 416 (by decide +kernel) (by decide +kernel)), ⟨(by decide +kernel), (by decide +kernel), (by decide +kernel)⟩⟩
theorem cv_10_62 : CS RX10 62 yX10_within cX10_within 3 (some .boolean) 3 := ⟨(mw 417 (by decide +kernel) (by decide +kernel)), (mw 418 (by decide +kernel) (by decide +kernel)), (mw 57 (by decide +kernel) (by decide +kernel)), (mw 419 (by decide +kernel) (by decide +kernel)), ⟨(by decide +kernel), (by decide +kernel), (by decide +kernel)⟩⟩
theorem cv_10_71 : CV RX10 71 RX2 yX2_push cX2_push 2 none 1 := ⟨(mw 421 (by decide +kernel) (by decide +kernel)), (mw 422 (by decide +kernel) (by decide +kernel)), (mw 423 (by decide +kernel) (by decide +kernel)), (mw 63 (by decide +kernel) (by decide +kernel)), (mw 424 (by decide +kernel) (by decide +kernel)), ⟨(by decide +kernel), (by decide +kernel), (by decide +kernel)⟩⟩
theorem cv_2_27 : CV RX2 27 RX6 yX6_copyFrom cX6_copyFrom 2 none 1 := ⟨(mw 425 (by decide +kernel) (by decide +kernel)), (mw 426 (by decide +kernel) (by decide +kernel)), (mw 427 (by decide +kernel) (by decide +kernel)), (mw 58 (by decide +kernel) (by decide +kernel)), (mw 428 (by decide +kernel) (by decide +kernel)), ⟨(by decide +kernel), (by decide +kernel), (by decide +kernel)⟩⟩
theorem cv_6_62 : CV RX6 62 RX7 yX7_copyFrom cX7_copyFrom 2 none 1 := ⟨(mw 429 (by decide +kernel) (by decide +kernel)), (mw 430 (by decide +kernel) (by decide +kernel)), (mw 431 (by decide +kernel) (by decide +kernel)), (mw 59 (by decide +kernel) (by decide +kernel)), (mw 432 (by decide +kernel) (by decide +kernel)), ⟨(by decide +kernel), (by decide +kernel), (by decide +kernel)⟩⟩
theorem cm_7_22 : Cond.methodLink RX7 22 arraycopyName ∈ tb ∧ Cond.native arraycopyName ∈ tb ∧ Cond.static arraycopyName ∈ tb ∧ Cond.initialized "java/lang/System" ∈ tb := ⟨(mw 433 (by decide +kernel) (by decide +kernel)), (mw 435 (by decide +kernel) (by decide +kernel)), (mw 434 (by decide +kernel) (by decide +kernel)), (mw 69 (by decide +kernel) (by decide +kernel))⟩
theorem cv_6_66 : CV RX6 66 RX0 yX0_copyFrom cX0_copyFrom 2 none 1 := ⟨(mw 436 (by decide +kernel) (by decide +kernel)), (mw 437 (by decide +kernel) (by decide +kernel)), (mw 438 (by decide +kernel) (by decide +kernel)), (mw 60 (by decide +kernel) (by decide +kernel)), (mw 439 (by decide +kernel) (by decide +kernel)), ⟨(by decide +kernel), (by decide +kernel), (by decide +kernel)⟩⟩
theorem cm_0_18 : Cond.methodLink RX0 18 arraycopyName ∈ tb ∧ Cond.native arraycopyName ∈ tb ∧ Cond.static arraycopyName ∈ tb ∧ Cond.initialized "java/lang/System" ∈ tb := ⟨(mw 440 (by decide +kernel) (by decide +kernel)), (mw 435 (by decide +kernel) (by decide +kernel)), (mw 434 (by decide +kernel) (by decide +kernel)), (mw 69 (by decide +kernel) (by decide +kernel))⟩
theorem cv_6_69 : CV RX6 69 RX1 yX1_copyFrom cX1_copyFrom 2 none 1 := ⟨(mw 441 (by decide +kernel) (by decide +kernel)), (mw 442 (by decide +kernel) (by decide +kernel)), (mw 443 (by decide +kernel) (by decide +kernel)), (mw 61 (by decide +kernel) (by decide +kernel)), (mw 444 (by decide +kernel) (by decide +kernel)), ⟨(by decide +kernel), (by decide +kernel), (by decide +kernel)⟩⟩
theorem cm_1_30 : Cond.methodLink RX1 30 arraycopyName ∈ tb ∧ Cond.native arraycopyName ∈ tb ∧ Cond.static arraycopyName ∈ tb ∧ Cond.initialized "java/lang/System" ∈ tb := ⟨(mw 445 (by decide +kernel) (by decide +kernel)), (mw 435 (by decide +kernel) (by decide +kernel)), (mw 434 (by decide +kernel) (by decide +kernel)), (mw 69 (by decide +kernel) (by decide +kernel))⟩
theorem cv_6_72 : CV RX6 72 RX4 yX4_copyFrom cX4_copyFrom 2 none 1 := ⟨(mw 446 (by decide +kernel) (by decide +kernel)), (mw 447 (by decide +kernel) (by decide +kernel)), (mw 448 (by decide +kernel) (by decide +kernel)), (mw 62 (by decide +kernel) (by decide +kernel)), (mw 449 (by decide +kernel) (by decide +kernel)), ⟨(by decide +kernel), (by decide +kernel), (by decide +kernel)⟩⟩
theorem cm_4_45 : Cond.methodLink RX4 45 arraycopyName ∈ tb ∧ Cond.native arraycopyName ∈ tb ∧ Cond.static arraycopyName ∈ tb ∧ Cond.initialized "java/lang/System" ∈ tb := ⟨(mw 450 (by decide +kernel) (by decide +kernel)), (mw 435 (by decide +kernel) (by decide +kernel)), (mw 434 (by decide +kernel) (by decide +kernel)), (mw 69 (by decide +kernel) (by decide +kernel))⟩
theorem cm_2_35 : Cond.methodLink RX2 35 Lib.Math.min.name ∈ tb ∧ Cond.static Lib.Math.min.name ∈ tb ∧ Cond.initialized "java/lang/Math" ∈ tb ∧ Cond.code Lib.Math.min.name Lib.Math.min.code 2 (some .int) ∈ tb := ⟨(mw 451 (by decide +kernel) (by decide +kernel)), (mw 452 (by decide +kernel) (by decide +kernel)), (mw 70 (by decide +kernel) (by decide +kernel)), (mw 453 (by decide +kernel) (by decide +kernel))⟩
theorem cv_L_18 : CV RL 18 RX10 yX10_term cX10_term 5 (some .int) 4 := ⟨(mw 454 (by decide +kernel) (by decide +kernel)), (mw 455 (by decide +kernel) (by decide +kernel)), (mw 456 (by decide +kernel) (by decide +kernel)), (mw 57 (by decide +kernel) (by decide +kernel)), (mw 457 (by decide +kernel) (by decide +kernel)), ⟨(by decide +kernel), (by decide +kernel), (by decide +kernel)⟩⟩
theorem cv_10_75 : CV RX10 75 RX6 yX6_fit cX6_fit 6 (some .boolean) 5 := ⟨(mw 458 (by decide +kernel) (by decide +kernel)), (mw 459 (by decide +kernel) (by decide +kernel)), (mw 460 (by decide +kernel) (by decide +kernel)), (mw 58 (by decide +kernel) (by decide +kernel)), (mw 461 (by decide +kernel) (by decide +kernel)), ⟨(by decide +kernel), (by decide +kernel), (by decide +kernel)⟩⟩
theorem cv_6_75 : CN RX6 75 yX10_within "PollMeshes" cX10_within 3 (some .boolean) 3 := ⟨List.mem_of_getElem? (i := 12) (by decide +kernel), (mw 418 (by decide +kernel) (by decide +kernel)), (mw 57 (by decide +kernel) (by decide +kernel)), (mw 419 (by decide +kernel) (by decide +kernel)), ⟨(by decide +kernel), (by decide +kernel), (by decide +kernel)⟩⟩
theorem cv_10_89 : CV RX10 89 RX7 yX7_add cX7_add 5 none 4 := ⟨(mw 464 (by decide +kernel) (by decide +kernel)), (mw 465 (by decide +kernel) (by decide +kernel)), (mw 466 (by decide +kernel) (by decide +kernel)), (mw 59 (by decide +kernel) (by decide +kernel)), (mw 467 (by decide +kernel) (by decide +kernel)), ⟨(by decide +kernel), (by decide +kernel), (by decide +kernel)⟩⟩
theorem cv_L_23 : CV RL 23 RX10 yX10_dropTerm cX10_dropTerm 3 (some .int) 1 := ⟨(mw 468 (by decide +kernel) (by decide +kernel)), (mw 469 (by decide +kernel) (by decide +kernel)), (mw 470 (by decide +kernel) (by decide +kernel)), (mw 57 (by decide +kernel) (by decide +kernel)), (mw 471 (by decide +kernel) (by decide +kernel)), ⟨(by decide +kernel), (by decide +kernel), (by decide +kernel)⟩⟩
theorem cv_10_98 : CV RX10 98 RX7 yX7_remove cX7_remove 2 none 1 := ⟨(mw 473 (by decide +kernel) (by decide +kernel)), (mw 474 (by decide +kernel) (by decide +kernel)), (mw 475 (by decide +kernel) (by decide +kernel)), (mw 59 (by decide +kernel) (by decide +kernel)), (mw 476 (by decide +kernel) (by decide +kernel)), ⟨(by decide +kernel), (by decide +kernel), (by decide +kernel)⟩⟩
theorem cv_7_28 : CN RX7 28 yX10_closeGap "PollMeshes" cX10_closeGap 5 none 4 := ⟨List.mem_of_getElem? (i := 13) (by decide +kernel), (mw 478 (by decide +kernel) (by decide +kernel)), (mw 57 (by decide +kernel) (by decide +kernel)), (mw 479 (by decide +kernel) (by decide +kernel)), ⟨(by decide +kernel), (by decide +kernel), (by decide +kernel)⟩⟩
theorem cv_L_27 : CV RL 27 RX10 yX10_bound cX10_bound 4 (some .int) 3 := ⟨(mw 480 (by decide +kernel) (by decide +kernel)), (mw 481 (by decide +kernel) (by decide +kernel)), (mw 482 (by decide +kernel) (by decide +kernel)), (mw 57 (by decide +kernel) (by decide +kernel)), (mw 483 (by decide +kernel) (by decide +kernel)), ⟨(by decide +kernel), (by decide +kernel), (by decide +kernel)⟩⟩
theorem cv_10_101 : CV RX10 101 RX6 yX6_hasVariable cX6_hasVariable 2 (some .boolean) 1 := ⟨(mw 484 (by decide +kernel) (by decide +kernel)), (mw 485 (by decide +kernel) (by decide +kernel)), (mw 486 (by decide +kernel) (by decide +kernel)), (mw 58 (by decide +kernel) (by decide +kernel)), (mw 487 (by decide +kernel) (by decide +kernel)), ⟨(by decide +kernel), (by decide +kernel), (by decide +kernel)⟩⟩
theorem cv_10_117 : CV RX10 117 RX6 yX6_placeIsAllowed cX6_placeIsAllowed 1 (some .boolean) 0 := ⟨(mw 488 (by decide +kernel) (by decide +kernel)), (mw 489 (by decide +kernel) (by decide +kernel)), (mw 490 (by decide +kernel) (by decide +kernel)), (mw 58 (by decide +kernel) (by decide +kernel)), (mw 491 (by decide +kernel) (by decide +kernel)), ⟨(by decide +kernel), (by decide +kernel), (by decide +kernel)⟩⟩
theorem cv_6_83 : CV RX6 83 RX0 yX0_allow cX0_allow 4 (some .boolean) 3 := ⟨(mw 492 (by decide +kernel) (by decide +kernel)), (mw 493 (by decide +kernel) (by decide +kernel)), (mw 494 (by decide +kernel) (by decide +kernel)), (mw 60 (by decide +kernel) (by decide +kernel)), (mw 495 (by decide +kernel) (by decide +kernel)), ⟨(by decide +kernel), (by decide +kernel), (by decide +kernel)⟩⟩
theorem cv_0_24 : CN RX0 24 yX10_within "PollMeshes" cX10_within 3 (some .boolean) 3 := ⟨List.mem_of_getElem? (i := 14) (by decide +kernel), (mw 418 (by decide +kernel) (by decide +kernel)), (mw 57 (by decide +kernel) (by decide +kernel)), (mw 419 (by decide +kernel) (by decide +kernel)), ⟨(by decide +kernel), (by decide +kernel), (by decide +kernel)⟩⟩
theorem cv_10_121 : CS RX10 121 yX10_oneIf cX10_oneIf 1 (some .int) 1 := ⟨(mw 497 (by decide +kernel) (by decide +kernel)), (mw 498 (by decide +kernel) (by decide +kernel)), (mw 57 (by decide +kernel) (by decide +kernel)), (mw 499 (by decide +kernel) (by decide +kernel)), ⟨(by decide +kernel), (by decide +kernel), (by decide +kernel)⟩⟩
theorem cv_L_32 : CV RL 32 RX10 yX10_direction cX10_direction 4 (some .int) 3 := ⟨(mw 500 (by decide +kernel) (by decide +kernel)), (mw 501 (by decide +kernel) (by decide +kernel)), (mw 502 (by decide +kernel) (by decide +kernel)), (mw 57 (by decide +kernel) (by decide +kernel)), (mw 503 (by decide +kernel) (by decide +kernel)), ⟨(by decide +kernel), (by decide +kernel), (by decide +kernel)⟩⟩
theorem cv_10_129 : CV RX10 129 RX1 yX1_has cX1_has 6 (some .boolean) 3 := ⟨(mw 504 (by decide +kernel) (by decide +kernel)), (mw 505 (by decide +kernel) (by decide +kernel)), (mw 506 (by decide +kernel) (by decide +kernel)), (mw 61 (by decide +kernel) (by decide +kernel)), (mw 507 (by decide +kernel) (by decide +kernel)), ⟨(by decide +kernel), (by decide +kernel), (by decide +kernel)⟩⟩
theorem cv_10_135 : CV RX10 135 RX1 yX1_add cX1_add 4 none 3 := ⟨(mw 508 (by decide +kernel) (by decide +kernel)), (mw 250 (by decide +kernel) (by decide +kernel)), (mw 251 (by decide +kernel) (by decide +kernel)), (mw 61 (by decide +kernel) (by decide +kernel)), (mw 252 (by decide +kernel) (by decide +kernel)), ⟨(by decide +kernel), (by decide +kernel), (by decide +kernel)⟩⟩
theorem cv_L_36 : CV RL 36 RX10 yX10_dropDirection cX10_dropDirection 2 (some .int) 1 := ⟨(mw 509 (by decide +kernel) (by decide +kernel)), (mw 510 (by decide +kernel) (by decide +kernel)), (mw 511 (by decide +kernel) (by decide +kernel)), (mw 57 (by decide +kernel) (by decide +kernel)), (mw 512 (by decide +kernel) (by decide +kernel)), ⟨(by decide +kernel), (by decide +kernel), (by decide +kernel)⟩⟩
theorem cv_10_138 : CV RX10 138 RX1 yX1_remove cX1_remove 2 none 1 := ⟨(mw 513 (by decide +kernel) (by decide +kernel)), (mw 514 (by decide +kernel) (by decide +kernel)), (mw 515 (by decide +kernel) (by decide +kernel)), (mw 61 (by decide +kernel) (by decide +kernel)), (mw 516 (by decide +kernel) (by decide +kernel)), ⟨(by decide +kernel), (by decide +kernel), (by decide +kernel)⟩⟩
theorem cv_1_36 : CN RX1 36 yX10_closeGap "PollMeshes" cX10_closeGap 5 none 4 := ⟨List.mem_of_getElem? (i := 15) (by decide +kernel), (mw 478 (by decide +kernel) (by decide +kernel)), (mw 57 (by decide +kernel) (by decide +kernel)), (mw 479 (by decide +kernel) (by decide +kernel)), ⟨(by decide +kernel), (by decide +kernel), (by decide +kernel)⟩⟩
theorem cv_10_143 : CV RX10 143 RX4 yX4_forgetDirection cX4_forgetDirection 2 none 1 := ⟨(mw 518 (by decide +kernel) (by decide +kernel)), (mw 519 (by decide +kernel) (by decide +kernel)), (mw 520 (by decide +kernel) (by decide +kernel)), (mw 62 (by decide +kernel) (by decide +kernel)), (mw 521 (by decide +kernel) (by decide +kernel)), ⟨(by decide +kernel), (by decide +kernel), (by decide +kernel)⟩⟩
theorem cv_L_40 : CV RL 40 RX10 yX10_start cX10_start 5 (some .int) 4 := ⟨(mw 522 (by decide +kernel) (by decide +kernel)), (mw 523 (by decide +kernel) (by decide +kernel)), (mw 524 (by decide +kernel) (by decide +kernel)), (mw 57 (by decide +kernel) (by decide +kernel)), (mw 525 (by decide +kernel) (by decide +kernel)), ⟨(by decide +kernel), (by decide +kernel), (by decide +kernel)⟩⟩
theorem cv_10_148 : CV RX10 148 RX4 yX4_begin cX4_begin 5 none 4 := ⟨(mw 526 (by decide +kernel) (by decide +kernel)), (mw 254 (by decide +kernel) (by decide +kernel)), (mw 255 (by decide +kernel) (by decide +kernel)), (mw 62 (by decide +kernel) (by decide +kernel)), (mw 256 (by decide +kernel) (by decide +kernel)), ⟨(by decide +kernel), (by decide +kernel), (by decide +kernel)⟩⟩
theorem cv_10_151 : CV RX10 151 RX1 yX1_forgetTaken cX1_forgetTaken 2 none 0 := ⟨(mw 527 (by decide +kernel) (by decide +kernel)), (mw 528 (by decide +kernel) (by decide +kernel)), (mw 529 (by decide +kernel) (by decide +kernel)), (mw 61 (by decide +kernel) (by decide +kernel)), (mw 530 (by decide +kernel) (by decide +kernel)), ⟨(by decide +kernel), (by decide +kernel), (by decide +kernel)⟩⟩
theorem cv_L_44 : CV RL 44 RX10 yX10_order cX10_order 4 (some .int) 2 := ⟨(mw 531 (by decide +kernel) (by decide +kernel)), (mw 532 (by decide +kernel) (by decide +kernel)), (mw 533 (by decide +kernel) (by decide +kernel)), (mw 57 (by decide +kernel) (by decide +kernel)), (mw 534 (by decide +kernel) (by decide +kernel)), ⟨(by decide +kernel), (by decide +kernel), (by decide +kernel)⟩⟩
theorem cv_L_49 : CV RL 49 RX10 yX10_poll cX10_poll 1 (some .int) 0 := ⟨(mw 535 (by decide +kernel) (by decide +kernel)), (mw 536 (by decide +kernel) (by decide +kernel)), (mw 537 (by decide +kernel) (by decide +kernel)), (mw 57 (by decide +kernel) (by decide +kernel)), (mw 538 (by decide +kernel) (by decide +kernel)), ⟨(by decide +kernel), (by decide +kernel), (by decide +kernel)⟩⟩
theorem cv_10_160 : CV RX10 160 RX6 yX6_canPoll cX6_canPoll 1 (some .boolean) 0 := ⟨(mw 539 (by decide +kernel) (by decide +kernel)), (mw 540 (by decide +kernel) (by decide +kernel)), (mw 541 (by decide +kernel) (by decide +kernel)), (mw 58 (by decide +kernel) (by decide +kernel)), (mw 542 (by decide +kernel) (by decide +kernel)), ⟨(by decide +kernel), (by decide +kernel), (by decide +kernel)⟩⟩
theorem cv_6_86 : CV RX6 86 RX6 yX6_placeIsAllowed cX6_placeIsAllowed 1 (some .boolean) 0 := ⟨(mw 543 (by decide +kernel) (by decide +kernel)), (mw 489 (by decide +kernel) (by decide +kernel)), (mw 490 (by decide +kernel) (by decide +kernel)), (mw 58 (by decide +kernel) (by decide +kernel)), (mw 491 (by decide +kernel) (by decide +kernel)), ⟨(by decide +kernel), (by decide +kernel), (by decide +kernel)⟩⟩
theorem cv_10_163 : CV RX10 163 RX6 yX6_pollOnce cX6_pollOnce 4 (some .int) 1 := ⟨(mw 544 (by decide +kernel) (by decide +kernel)), (mw 545 (by decide +kernel) (by decide +kernel)), (mw 546 (by decide +kernel) (by decide +kernel)), (mw 58 (by decide +kernel) (by decide +kernel)), (mw 547 (by decide +kernel) (by decide +kernel)), ⟨(by decide +kernel), (by decide +kernel), (by decide +kernel)⟩⟩
theorem cv_6_104 : CV RX6 104 RX9 yX9_gather cX9_gather 7 none 2 := ⟨(mw 548 (by decide +kernel) (by decide +kernel)), (mw 549 (by decide +kernel) (by decide +kernel)), (mw 550 (by decide +kernel) (by decide +kernel)), (mw 65 (by decide +kernel) (by decide +kernel)), (mw 551 (by decide +kernel) (by decide +kernel)), ⟨(by decide +kernel), (by decide +kernel), (by decide +kernel)⟩⟩
theorem cv_9_26 : CV RX9 26 RX6 yX6_valueHere cX6_valueHere 1 (some .long) 0 := ⟨(mw 552 (by decide +kernel) (by decide +kernel)), (mw 553 (by decide +kernel) (by decide +kernel)), (mw 554 (by decide +kernel) (by decide +kernel)), (mw 58 (by decide +kernel) (by decide +kernel)), (mw 555 (by decide +kernel) (by decide +kernel)), ⟨(by decide +kernel), (by decide +kernel), (by decide +kernel)⟩⟩
theorem cv_6_91 : CV RX6 91 RX7 yX7_sumAt cX7_sumAt 10 (some .long) 4 := ⟨(mw 556 (by decide +kernel) (by decide +kernel)), (mw 557 (by decide +kernel) (by decide +kernel)), (mw 558 (by decide +kernel) (by decide +kernel)), (mw 59 (by decide +kernel) (by decide +kernel)), (mw 559 (by decide +kernel) (by decide +kernel)), ⟨(by decide +kernel), (by decide +kernel), (by decide +kernel)⟩⟩
theorem cv_7_32 : CS RX7 32 yX7_raised cX7_raised 5 (some .long) 2 := ⟨(mw 560 (by decide +kernel) (by decide +kernel)), (mw 561 (by decide +kernel) (by decide +kernel)), (mw 59 (by decide +kernel) (by decide +kernel)), (mw 562 (by decide +kernel) (by decide +kernel)), ⟨(by decide +kernel), (by decide +kernel), (by decide +kernel)⟩⟩
theorem cv_9_41 : CV RX9 41 RX6 yX6_trialNumber cX6_trialNumber 4 (some .int) 3 := ⟨(mw 563 (by decide +kernel) (by decide +kernel)), (mw 564 (by decide +kernel) (by decide +kernel)), (mw 565 (by decide +kernel) (by decide +kernel)), (mw 58 (by decide +kernel) (by decide +kernel)), (mw 566 (by decide +kernel) (by decide +kernel)), ⟨(by decide +kernel), (by decide +kernel), (by decide +kernel)⟩⟩
theorem cv_9_49 : CV RX9 49 RX0 yX0_allow cX0_allow 4 (some .boolean) 3 := ⟨(mw 567 (by decide +kernel) (by decide +kernel)), (mw 493 (by decide +kernel) (by decide +kernel)), (mw 494 (by decide +kernel) (by decide +kernel)), (mw 60 (by decide +kernel) (by decide +kernel)), (mw 495 (by decide +kernel) (by decide +kernel)), ⟨(by decide +kernel), (by decide +kernel), (by decide +kernel)⟩⟩
theorem cv_9_55 : CV RX9 55 RX6 yX6_rankOf cX6_rankOf 5 (some .long) 4 := ⟨(mw 568 (by decide +kernel) (by decide +kernel)), (mw 569 (by decide +kernel) (by decide +kernel)), (mw 570 (by decide +kernel) (by decide +kernel)), (mw 58 (by decide +kernel) (by decide +kernel)), (mw 571 (by decide +kernel) (by decide +kernel)), ⟨(by decide +kernel), (by decide +kernel), (by decide +kernel)⟩⟩
theorem cv_9_63 : CV RX9 63 RX7 yX7_sumAt cX7_sumAt 10 (some .long) 4 := ⟨(mw 572 (by decide +kernel) (by decide +kernel)), (mw 557 (by decide +kernel) (by decide +kernel)), (mw 558 (by decide +kernel) (by decide +kernel)), (mw 59 (by decide +kernel) (by decide +kernel)), (mw 559 (by decide +kernel) (by decide +kernel)), ⟨(by decide +kernel), (by decide +kernel), (by decide +kernel)⟩⟩
theorem cv_9_68 : CV RX9 68 RX9 yX9_insert cX9_insert 7 none 3 := ⟨(mw 573 (by decide +kernel) (by decide +kernel)), (mw 575 (by decide +kernel) (by decide +kernel)), (mw 2 (by decide +kernel) (by decide +kernel)), (mw 65 (by decide +kernel) (by decide +kernel)), (mw 576 (by decide +kernel) (by decide +kernel)), ⟨(by decide +kernel), (by decide +kernel), (by decide +kernel)⟩⟩
theorem cv_6_110 : CV RX6 110 RX9 yX9_chooseBetter cX9_chooseBetter 6 (some .int) 1 := ⟨(mw 577 (by decide +kernel) (by decide +kernel)), (mw 578 (by decide +kernel) (by decide +kernel)), (mw 579 (by decide +kernel) (by decide +kernel)), (mw 65 (by decide +kernel) (by decide +kernel)), (mw 580 (by decide +kernel) (by decide +kernel)), ⟨(by decide +kernel), (by decide +kernel), (by decide +kernel)⟩⟩
theorem cv_6_121 : CV RX6 121 RX4 yX4_fail cX4_fail 1 none 0 := ⟨(mw 581 (by decide +kernel) (by decide +kernel)), (mw 582 (by decide +kernel) (by decide +kernel)), (mw 583 (by decide +kernel) (by decide +kernel)), (mw 62 (by decide +kernel) (by decide +kernel)), (mw 584 (by decide +kernel) (by decide +kernel)), ⟨(by decide +kernel), (by decide +kernel), (by decide +kernel)⟩⟩
theorem cm_4_57 : Cond.methodLink RX4 57 Lib.Math.max.name ∈ tb ∧ Cond.static Lib.Math.max.name ∈ tb ∧ Cond.initialized "java/lang/Math" ∈ tb ∧ Cond.code Lib.Math.max.name Lib.Math.max.code 2 (some .int) ∈ tb := ⟨(mw 585 (by decide +kernel) (by decide +kernel)), (mw 586 (by decide +kernel) (by decide +kernel)), (mw 70 (by decide +kernel) (by decide +kernel)), (mw 587 (by decide +kernel) (by decide +kernel))⟩
theorem cv_6_127 : CV RX6 127 RX6 yX6_trialNumber cX6_trialNumber 4 (some .int) 3 := ⟨(mw 588 (by decide +kernel) (by decide +kernel)), (mw 564 (by decide +kernel) (by decide +kernel)), (mw 565 (by decide +kernel) (by decide +kernel)), (mw 58 (by decide +kernel) (by decide +kernel)), (mw 566 (by decide +kernel) (by decide +kernel)), ⟨(by decide +kernel), (by decide +kernel), (by decide +kernel)⟩⟩
theorem cv_6_131 : CV RX6 131 RX4 yX4_succeed cX4_succeed 5 none 4 := ⟨(mw 589 (by decide +kernel) (by decide +kernel)), (mw 590 (by decide +kernel) (by decide +kernel)), (mw 591 (by decide +kernel) (by decide +kernel)), (mw 62 (by decide +kernel) (by decide +kernel)), (mw 592 (by decide +kernel) (by decide +kernel)), ⟨(by decide +kernel), (by decide +kernel), (by decide +kernel)⟩⟩
theorem cm_4_51 : Cond.methodLink RX4 51 Lib.Math.min.name ∈ tb ∧ Cond.static Lib.Math.min.name ∈ tb ∧ Cond.initialized "java/lang/Math" ∈ tb ∧ Cond.code Lib.Math.min.name Lib.Math.min.code 2 (some .int) ∈ tb := ⟨(mw 593 (by decide +kernel) (by decide +kernel)), (mw 452 (by decide +kernel) (by decide +kernel)), (mw 70 (by decide +kernel) (by decide +kernel)), (mw 453 (by decide +kernel) (by decide +kernel))⟩
theorem cv_L_54 : CV RL 54 RX10 yX10_run cX10_run 3 (some .int) 1 := ⟨(mw 594 (by decide +kernel) (by decide +kernel)), (mw 595 (by decide +kernel) (by decide +kernel)), (mw 596 (by decide +kernel) (by decide +kernel)), (mw 57 (by decide +kernel) (by decide +kernel)), (mw 597 (by decide +kernel) (by decide +kernel)), ⟨(by decide +kernel), (by decide +kernel), (by decide +kernel)⟩⟩
theorem cv_L_58 : CV RL 58 RX10 yX10_value cX10_value 6 (some .long) 4 := ⟨(mw 598 (by decide +kernel) (by decide +kernel)), (mw 599 (by decide +kernel) (by decide +kernel)), (mw 600 (by decide +kernel) (by decide +kernel)), (mw 57 (by decide +kernel) (by decide +kernel)), (mw 601 (by decide +kernel) (by decide +kernel)), ⟨(by decide +kernel), (by decide +kernel), (by decide +kernel)⟩⟩
theorem cv_10_174 : CV RX10 174 RX7 yX7_sumAt cX7_sumAt 10 (some .long) 4 := ⟨(mw 604 (by decide +kernel) (by decide +kernel)), (mw 557 (by decide +kernel) (by decide +kernel)), (mw 558 (by decide +kernel) (by decide +kernel)), (mw 59 (by decide +kernel) (by decide +kernel)), (mw 559 (by decide +kernel) (by decide +kernel)), ⟨(by decide +kernel), (by decide +kernel), (by decide +kernel)⟩⟩
theorem cv_L_63 : CV RL 63 RX10 yX10_termOf cX10_termOf 3 (some .int) 2 := ⟨(mw 605 (by decide +kernel) (by decide +kernel)), (mw 606 (by decide +kernel) (by decide +kernel)), (mw 607 (by decide +kernel) (by decide +kernel)), (mw 57 (by decide +kernel) (by decide +kernel)), (mw 608 (by decide +kernel) (by decide +kernel)), ⟨(by decide +kernel), (by decide +kernel), (by decide +kernel)⟩⟩
theorem cv_L_67 : CV RL 67 RX10 yX10_directionOf cX10_directionOf 3 (some .int) 2 := ⟨(mw 610 (by decide +kernel) (by decide +kernel)), (mw 611 (by decide +kernel) (by decide +kernel)), (mw 612 (by decide +kernel) (by decide +kernel)), (mw 57 (by decide +kernel) (by decide +kernel)), (mw 613 (by decide +kernel) (by decide +kernel)), ⟨(by decide +kernel), (by decide +kernel), (by decide +kernel)⟩⟩
theorem cv_L_71 : CV RL 71 RX10 yX10_searchOf cX10_searchOf 2 (some .int) 1 := ⟨(mw 614 (by decide +kernel) (by decide +kernel)), (mw 615 (by decide +kernel) (by decide +kernel)), (mw 616 (by decide +kernel) (by decide +kernel)), (mw 57 (by decide +kernel) (by decide +kernel)), (mw 617 (by decide +kernel) (by decide +kernel)), ⟨(by decide +kernel), (by decide +kernel), (by decide +kernel)⟩⟩
theorem cv_L_75 : CV RL 75 RX10 yX10_leftAt cX10_leftAt 3 (some .int) 2 := ⟨(mw 618 (by decide +kernel) (by decide +kernel)), (mw 619 (by decide +kernel) (by decide +kernel)), (mw 620 (by decide +kernel) (by decide +kernel)), (mw 57 (by decide +kernel) (by decide +kernel)), (mw 621 (by decide +kernel) (by decide +kernel)), ⟨(by decide +kernel), (by decide +kernel), (by decide +kernel)⟩⟩
theorem cv_L_79 : CV RL 79 RX10 yX10_count cX10_count 2 (some .int) 1 := ⟨(mw 622 (by decide +kernel) (by decide +kernel)), (mw 623 (by decide +kernel) (by decide +kernel)), (mw 624 (by decide +kernel) (by decide +kernel)), (mw 57 (by decide +kernel) (by decide +kernel)), (mw 625 (by decide +kernel) (by decide +kernel)), ⟨(by decide +kernel), (by decide +kernel), (by decide +kernel)⟩⟩
theorem cv_10_216 : CV RX10 216 RX10 yX10_boundOf cX10_boundOf 2 (some .int) 1 := ⟨(mw 626 (by decide +kernel) (by decide +kernel)), (mw 628 (by decide +kernel) (by decide +kernel)), (mw 3 (by decide +kernel) (by decide +kernel)), (mw 57 (by decide +kernel) (by decide +kernel)), (mw 629 (by decide +kernel) (by decide +kernel)), ⟨(by decide +kernel), (by decide +kernel), (by decide +kernel)⟩⟩
theorem cv_L_83 : CV RL 83 RX10 yX10_trialOf cX10_trialOf 3 (some .int) 2 := ⟨(mw 630 (by decide +kernel) (by decide +kernel)), (mw 631 (by decide +kernel) (by decide +kernel)), (mw 632 (by decide +kernel) (by decide +kernel)), (mw 57 (by decide +kernel) (by decide +kernel)), (mw 633 (by decide +kernel) (by decide +kernel)), ⟨(by decide +kernel), (by decide +kernel), (by decide +kernel)⟩⟩
theorem cv_10_220 : CV RX10 220 RX9 yX9_gather cX9_gather 7 none 2 := ⟨(mw 634 (by decide +kernel) (by decide +kernel)), (mw 549 (by decide +kernel) (by decide +kernel)), (mw 550 (by decide +kernel) (by decide +kernel)), (mw 65 (by decide +kernel) (by decide +kernel)), (mw 551 (by decide +kernel) (by decide +kernel)), ⟨(by decide +kernel), (by decide +kernel), (by decide +kernel)⟩⟩
theorem cv_10_227 : CV RX10 227 RX9 yX9_isBetter cX9_isBetter 2 (some .boolean) 1 := ⟨(mw 635 (by decide +kernel) (by decide +kernel)), (mw 636 (by decide +kernel) (by decide +kernel)), (mw 637 (by decide +kernel) (by decide +kernel)), (mw 65 (by decide +kernel) (by decide +kernel)), (mw 638 (by decide +kernel) (by decide +kernel)), ⟨(by decide +kernel), (by decide +kernel), (by decide +kernel)⟩⟩
theorem cv_L_87 : CV RL 87 RX10 yX10_spans cX10_spans 1 (some .int) 0 := ⟨(mw 639 (by decide +kernel) (by decide +kernel)), (mw 640 (by decide +kernel) (by decide +kernel)), (mw 641 (by decide +kernel) (by decide +kernel)), (mw 57 (by decide +kernel) (by decide +kernel)), (mw 642 (by decide +kernel) (by decide +kernel)), ⟨(by decide +kernel), (by decide +kernel), (by decide +kernel)⟩⟩
theorem cv_10_230 : CV RX10 230 RX5 yX5_isWhole cX5_isWhole 6 (some .boolean) 2 := ⟨(mw 643 (by decide +kernel) (by decide +kernel)), (mw 644 (by decide +kernel) (by decide +kernel)), (mw 645 (by decide +kernel) (by decide +kernel)), (mw 67 (by decide +kernel) (by decide +kernel)), (mw 646 (by decide +kernel) (by decide +kernel)), ⟨(by decide +kernel), (by decide +kernel), (by decide +kernel)⟩⟩
theorem cv_5_18 : CV RX5 18 RX5 yX5_fill cX5_fill 4 none 2 := ⟨(mw 647 (by decide +kernel) (by decide +kernel)), (mw 649 (by decide +kernel) (by decide +kernel)), (mw 4 (by decide +kernel) (by decide +kernel)), (mw 67 (by decide +kernel) (by decide +kernel)), (mw 650 (by decide +kernel) (by decide +kernel)), ⟨(by decide +kernel), (by decide +kernel), (by decide +kernel)⟩⟩
theorem cm_5_40 : Cond.methodLink RX5 40 arraycopyName ∈ tb ∧ Cond.native arraycopyName ∈ tb ∧ Cond.static arraycopyName ∈ tb ∧ Cond.initialized "java/lang/System" ∈ tb := ⟨(mw 651 (by decide +kernel) (by decide +kernel)), (mw 435 (by decide +kernel) (by decide +kernel)), (mw 434 (by decide +kernel) (by decide +kernel)), (mw 69 (by decide +kernel) (by decide +kernel))⟩
theorem cv_5_46 : CV RX5 46 RX5 yX5_addAlong cX5_addAlong 4 none 2 := ⟨(mw 652 (by decide +kernel) (by decide +kernel)), (mw 654 (by decide +kernel) (by decide +kernel)), (mw 5 (by decide +kernel) (by decide +kernel)), (mw 67 (by decide +kernel) (by decide +kernel)), (mw 655 (by decide +kernel) (by decide +kernel)), ⟨(by decide +kernel), (by decide +kernel), (by decide +kernel)⟩⟩
theorem cv_5_26 : CV RX5 26 RX5 yX5_findNormal cX5_findNormal 3 (some .boolean) 2 := ⟨(mw 656 (by decide +kernel) (by decide +kernel)), (mw 658 (by decide +kernel) (by decide +kernel)), (mw 6 (by decide +kernel) (by decide +kernel)), (mw 67 (by decide +kernel) (by decide +kernel)), (mw 659 (by decide +kernel) (by decide +kernel)), ⟨(by decide +kernel), (by decide +kernel), (by decide +kernel)⟩⟩
theorem cv_5_30 : CV RX5 30 RX5 yX5_hasRowsOnBothSides cX5_hasRowsOnBothSides 6 (some .boolean) 0 := ⟨(mw 660 (by decide +kernel) (by decide +kernel)), (mw 662 (by decide +kernel) (by decide +kernel)), (mw 7 (by decide +kernel) (by decide +kernel)), (mw 67 (by decide +kernel) (by decide +kernel)), (mw 663 (by decide +kernel) (by decide +kernel)), ⟨(by decide +kernel), (by decide +kernel), (by decide +kernel)⟩⟩
theorem cv_L_91 : CV RL 91 RX10 yX10_stuck cX10_stuck 2 (some .int) 1 := ⟨(mw 664 (by decide +kernel) (by decide +kernel)), (mw 665 (by decide +kernel) (by decide +kernel)), (mw 666 (by decide +kernel) (by decide +kernel)), (mw 57 (by decide +kernel) (by decide +kernel)), (mw 667 (by decide +kernel) (by decide +kernel)), ⟨(by decide +kernel), (by decide +kernel), (by decide +kernel)⟩⟩
theorem cv_10_234 : CV RX10 234 RX9 yX9_noneIsBetter cX9_noneIsBetter 2 (some .boolean) 0 := ⟨(mw 668 (by decide +kernel) (by decide +kernel)), (mw 669 (by decide +kernel) (by decide +kernel)), (mw 670 (by decide +kernel) (by decide +kernel)), (mw 65 (by decide +kernel) (by decide +kernel)), (mw 671 (by decide +kernel) (by decide +kernel)), ⟨(by decide +kernel), (by decide +kernel), (by decide +kernel)⟩⟩
theorem cv_9_72 : CV RX9 72 RX9 yX9_isBetter cX9_isBetter 2 (some .boolean) 1 := ⟨(mw 672 (by decide +kernel) (by decide +kernel)), (mw 636 (by decide +kernel) (by decide +kernel)), (mw 637 (by decide +kernel) (by decide +kernel)), (mw 65 (by decide +kernel) (by decide +kernel)), (mw 638 (by decide +kernel) (by decide +kernel)), ⟨(by decide +kernel), (by decide +kernel), (by decide +kernel)⟩⟩
theorem cv_L_95 : CV RL 95 RX10 yX10_around cX10_around 3 (some .int) 2 := ⟨(mw 673 (by decide +kernel) (by decide +kernel)), (mw 674 (by decide +kernel) (by decide +kernel)), (mw 675 (by decide +kernel) (by decide +kernel)), (mw 57 (by decide +kernel) (by decide +kernel)), (mw 676 (by decide +kernel) (by decide +kernel)), ⟨(by decide +kernel), (by decide +kernel), (by decide +kernel)⟩⟩
theorem cv_10_237 : CV RX10 237 RX3 yX3_findBest cX3_findBest 8 none 2 := ⟨(mw 677 (by decide +kernel) (by decide +kernel)), (mw 678 (by decide +kernel) (by decide +kernel)), (mw 679 (by decide +kernel) (by decide +kernel)), (mw 66 (by decide +kernel) (by decide +kernel)), (mw 680 (by decide +kernel) (by decide +kernel)), ⟨(by decide +kernel), (by decide +kernel), (by decide +kernel)⟩⟩
theorem cv_3_27 : CV RX3 27 RX3 yX3_consider cX3_consider 11 none 4 := ⟨(mw 682 (by decide +kernel) (by decide +kernel)), (mw 684 (by decide +kernel) (by decide +kernel)), (mw 8 (by decide +kernel) (by decide +kernel)), (mw 66 (by decide +kernel) (by decide +kernel)), (mw 685 (by decide +kernel) (by decide +kernel)), ⟨(by decide +kernel), (by decide +kernel), (by decide +kernel)⟩⟩
theorem cv_3_47 : CV RX3 47 RX0 yX0_allow cX0_allow 4 (some .boolean) 3 := ⟨(mw 686 (by decide +kernel) (by decide +kernel)), (mw 493 (by decide +kernel) (by decide +kernel)), (mw 494 (by decide +kernel) (by decide +kernel)), (mw 60 (by decide +kernel) (by decide +kernel)), (mw 495 (by decide +kernel) (by decide +kernel)), ⟨(by decide +kernel), (by decide +kernel), (by decide +kernel)⟩⟩
theorem cv_3_57 : CV RX3 57 RX7 yX7_sumAt cX7_sumAt 10 (some .long) 4 := ⟨(mw 687 (by decide +kernel) (by decide +kernel)), (mw 557 (by decide +kernel) (by decide +kernel)), (mw 558 (by decide +kernel) (by decide +kernel)), (mw 59 (by decide +kernel) (by decide +kernel)), (mw 559 (by decide +kernel) (by decide +kernel)), ⟨(by decide +kernel), (by decide +kernel), (by decide +kernel)⟩⟩
theorem cv_L_99 : CV RL 99 RX10 yX10_keep cX10_keep 1 (some .int) 0 := ⟨(mw 688 (by decide +kernel) (by decide +kernel)), (mw 689 (by decide +kernel) (by decide +kernel)), (mw 690 (by decide +kernel) (by decide +kernel)), (mw 57 (by decide +kernel) (by decide +kernel)), (mw 691 (by decide +kernel) (by decide +kernel)), ⟨(by decide +kernel), (by decide +kernel), (by decide +kernel)⟩⟩
theorem cv_10_243 : CV RX10 243 RX6 yX6_copyFrom cX6_copyFrom 2 none 1 := ⟨(mw 692 (by decide +kernel) (by decide +kernel)), (mw 426 (by decide +kernel) (by decide +kernel)), (mw 427 (by decide +kernel) (by decide +kernel)), (mw 58 (by decide +kernel) (by decide +kernel)), (mw 428 (by decide +kernel) (by decide +kernel)), ⟨(by decide +kernel), (by decide +kernel), (by decide +kernel)⟩⟩
theorem cv_L_103 : CV RL 103 RX10 yX10_restore cX10_restore 1 (some .int) 0 := ⟨(mw 693 (by decide +kernel) (by decide +kernel)), (mw 694 (by decide +kernel) (by decide +kernel)), (mw 695 (by decide +kernel) (by decide +kernel)), (mw 57 (by decide +kernel) (by decide +kernel)), (mw 696 (by decide +kernel) (by decide +kernel)), ⟨(by decide +kernel), (by decide +kernel), (by decide +kernel)⟩⟩
theorem cv_L_107 : CV RL 107 RX10 yX10_undo cX10_undo 1 (some .int) 0 := ⟨(mw 697 (by decide +kernel) (by decide +kernel)), (mw 698 (by decide +kernel) (by decide +kernel)), (mw 699 (by decide +kernel) (by decide +kernel)), (mw 57 (by decide +kernel) (by decide +kernel)), (mw 700 (by decide +kernel) (by decide +kernel)), ⟨(by decide +kernel), (by decide +kernel), (by decide +kernel)⟩⟩
theorem cv_10_246 : CV RX10 246 RX2 yX2_giveBack cX2_giveBack 2 none 1 := ⟨(mw 701 (by decide +kernel) (by decide +kernel)), (mw 702 (by decide +kernel) (by decide +kernel)), (mw 703 (by decide +kernel) (by decide +kernel)), (mw 63 (by decide +kernel) (by decide +kernel)), (mw 704 (by decide +kernel) (by decide +kernel)), ⟨(by decide +kernel), (by decide +kernel), (by decide +kernel)⟩⟩
theorem cv_L_111 : CV RL 111 RX10 yX10_type cX10_type 2 (some .int) 1 := ⟨(mw 705 (by decide +kernel) (by decide +kernel)), (mw 706 (by decide +kernel) (by decide +kernel)), (mw 707 (by decide +kernel) (by decide +kernel)), (mw 57 (by decide +kernel) (by decide +kernel)), (mw 708 (by decide +kernel) (by decide +kernel)), ⟨(by decide +kernel), (by decide +kernel), (by decide +kernel)⟩⟩
theorem cv_10_249 : CV RX10 249 RX8 yX8_append cX8_append 2 none 1 := ⟨(mw 709 (by decide +kernel) (by decide +kernel)), (mw 710 (by decide +kernel) (by decide +kernel)), (mw 711 (by decide +kernel) (by decide +kernel)), (mw 64 (by decide +kernel) (by decide +kernel)), (mw 712 (by decide +kernel) (by decide +kernel)), ⟨(by decide +kernel), (by decide +kernel), (by decide +kernel)⟩⟩
theorem cv_L_115 : CV RL 115 RX10 yX10_clearText cX10_clearText 2 (some .int) 0 := ⟨(mw 713 (by decide +kernel) (by decide +kernel)), (mw 714 (by decide +kernel) (by decide +kernel)), (mw 715 (by decide +kernel) (by decide +kernel)), (mw 57 (by decide +kernel) (by decide +kernel)), (mw 716 (by decide +kernel) (by decide +kernel)), ⟨(by decide +kernel), (by decide +kernel), (by decide +kernel)⟩⟩
theorem cv_L_119 : CV RL 119 RX10 yX10_fault cX10_fault 2 (some .int) 1 := ⟨(mw 717 (by decide +kernel) (by decide +kernel)), (mw 718 (by decide +kernel) (by decide +kernel)), (mw 719 (by decide +kernel) (by decide +kernel)), (mw 57 (by decide +kernel) (by decide +kernel)), (mw 720 (by decide +kernel) (by decide +kernel)), ⟨(by decide +kernel), (by decide +kernel), (by decide +kernel)⟩⟩
theorem cv_10_252 : CV RX10 252 RX8 yX8_isFunction cX8_isFunction 3 (some .boolean) 1 := ⟨(mw 721 (by decide +kernel) (by decide +kernel)), (mw 722 (by decide +kernel) (by decide +kernel)), (mw 723 (by decide +kernel) (by decide +kernel)), (mw 64 (by decide +kernel) (by decide +kernel)), (mw 724 (by decide +kernel) (by decide +kernel)), ⟨(by decide +kernel), (by decide +kernel), (by decide +kernel)⟩⟩
theorem cv_8_38 : CV RX8 38 RX8 yX8_beginTerm cX8_beginTerm 3 none 1 := ⟨(mw 725 (by decide +kernel) (by decide +kernel)), (mw 727 (by decide +kernel) (by decide +kernel)), (mw 9 (by decide +kernel) (by decide +kernel)), (mw 64 (by decide +kernel) (by decide +kernel)), (mw 728 (by decide +kernel) (by decide +kernel)), ⟨(by decide +kernel), (by decide +kernel), (by decide +kernel)⟩⟩
theorem cv_8_42 : CV RX8 42 RX8 yX8_scanCharacter cX8_scanCharacter 4 none 3 := ⟨(mw 729 (by decide +kernel) (by decide +kernel)), (mw 731 (by decide +kernel) (by decide +kernel)), (mw 10 (by decide +kernel) (by decide +kernel)), (mw 64 (by decide +kernel) (by decide +kernel)), (mw 732 (by decide +kernel) (by decide +kernel)), ⟨(by decide +kernel), (by decide +kernel), (by decide +kernel)⟩⟩
theorem cv_8_49 : CN RX8 49 yX10_within "PollMeshes" cX10_within 3 (some .boolean) 3 := ⟨List.mem_of_getElem? (i := 16) (by decide +kernel), (mw 418 (by decide +kernel) (by decide +kernel)), (mw 57 (by decide +kernel) (by decide +kernel)), (mw 419 (by decide +kernel) (by decide +kernel)), ⟨(by decide +kernel), (by decide +kernel), (by decide +kernel)⟩⟩
theorem cv_8_53 : CV RX8 53 RX8 yX8_scanLetter cX8_scanLetter 4 none 3 := ⟨(mw 734 (by decide +kernel) (by decide +kernel)), (mw 736 (by decide +kernel) (by decide +kernel)), (mw 11 (by decide +kernel) (by decide +kernel)), (mw 64 (by decide +kernel) (by decide +kernel)), (mw 737 (by decide +kernel) (by decide +kernel)), ⟨(by decide +kernel), (by decide +kernel), (by decide +kernel)⟩⟩
theorem cv_8_64 : CV RX8 64 RX8 yX8_setFault cX8_setFault 3 none 2 := ⟨(mw 738 (by decide +kernel) (by decide +kernel)), (mw 740 (by decide +kernel) (by decide +kernel)), (mw 12 (by decide +kernel) (by decide +kernel)), (mw 64 (by decide +kernel) (by decide +kernel)), (mw 741 (by decide +kernel) (by decide +kernel)), ⟨(by decide +kernel), (by decide +kernel), (by decide +kernel)⟩⟩
theorem cv_8_56 : CV RX8 56 RX8 yX8_scanDigit cX8_scanDigit 3 none 2 := ⟨(mw 742 (by decide +kernel) (by decide +kernel)), (mw 744 (by decide +kernel) (by decide +kernel)), (mw 13 (by decide +kernel) (by decide +kernel)), (mw 64 (by decide +kernel) (by decide +kernel)), (mw 745 (by decide +kernel) (by decide +kernel)), ⟨(by decide +kernel), (by decide +kernel), (by decide +kernel)⟩⟩
theorem cv_8_60 : CV RX8 60 RX8 yX8_scanSign cX8_scanSign 3 none 2 := ⟨(mw 746 (by decide +kernel) (by decide +kernel)), (mw 748 (by decide +kernel) (by decide +kernel)), (mw 14 (by decide +kernel) (by decide +kernel)), (mw 64 (by decide +kernel) (by decide +kernel)), (mw 749 (by decide +kernel) (by decide +kernel)), ⟨(by decide +kernel), (by decide +kernel), (by decide +kernel)⟩⟩
theorem cv_8_76 : CV RX8 76 RX8 yX8_termIsEmpty cX8_termIsEmpty 1 (some .boolean) 0 := ⟨(mw 750 (by decide +kernel) (by decide +kernel)), (mw 752 (by decide +kernel) (by decide +kernel)), (mw 15 (by decide +kernel) (by decide +kernel)), (mw 64 (by decide +kernel) (by decide +kernel)), (mw 753 (by decide +kernel) (by decide +kernel)), ⟨(by decide +kernel), (by decide +kernel), (by decide +kernel)⟩⟩
theorem cv_8_84 : CV RX8 84 RX8 yX8_endTerm cX8_endTerm 2 none 0 := ⟨(mw 754 (by decide +kernel) (by decide +kernel)), (mw 756 (by decide +kernel) (by decide +kernel)), (mw 16 (by decide +kernel) (by decide +kernel)), (mw 64 (by decide +kernel) (by decide +kernel)), (mw 757 (by decide +kernel) (by decide +kernel)), ⟨(by decide +kernel), (by decide +kernel), (by decide +kernel)⟩⟩
theorem cv_8_87 : CV RX8 87 RX7 yX7_add cX7_add 5 none 4 := ⟨(mw 758 (by decide +kernel) (by decide +kernel)), (mw 465 (by decide +kernel) (by decide +kernel)), (mw 466 (by decide +kernel) (by decide +kernel)), (mw 59 (by decide +kernel) (by decide +kernel)), (mw 467 (by decide +kernel) (by decide +kernel)), ⟨(by decide +kernel), (by decide +kernel), (by decide +kernel)⟩⟩
theorem cv_8_46 : CV RX8 46 RX8 yX8_scanEnd cX8_scanEnd 1 none 0 := ⟨(mw 759 (by decide +kernel) (by decide +kernel)), (mw 761 (by decide +kernel) (by decide +kernel)), (mw 17 (by decide +kernel) (by decide +kernel)), (mw 64 (by decide +kernel) (by decide +kernel)), (mw 762 (by decide +kernel) (by decide +kernel)), ⟨(by decide +kernel), (by decide +kernel), (by decide +kernel)⟩⟩
theorem cv_L_123 : CV RL 123 RX10 yX10_read cX10_read 1 (some .int) 0 := ⟨(mw 763 (by decide +kernel) (by decide +kernel)), (mw 764 (by decide +kernel) (by decide +kernel)), (mw 765 (by decide +kernel) (by decide +kernel)), (mw 57 (by decide +kernel) (by decide +kernel)), (mw 766 (by decide +kernel) (by decide +kernel)), ⟨(by decide +kernel), (by decide +kernel), (by decide +kernel)⟩⟩
theorem cv_10_264 : CV RX10 264 RX7 yX7_copyFrom cX7_copyFrom 2 none 1 := ⟨(mw 767 (by decide +kernel) (by decide +kernel)), (mw 430 (by decide +kernel) (by decide +kernel)), (mw 431 (by decide +kernel) (by decide +kernel)), (mw 59 (by decide +kernel) (by decide +kernel)), (mw 432 (by decide +kernel) (by decide +kernel)), ⟨(by decide +kernel), (by decide +kernel), (by decide +kernel)⟩⟩
theorem cv_11_32 : CV RX11 32 RX11 yX11_begin cX11_begin 3 none 1 := ⟨(mw 774 (by decide +kernel) (by decide +kernel)), (mw 776 (by decide +kernel) (by decide +kernel)), (mw 18 (by decide +kernel) (by decide +kernel)), (mw 68 (by decide +kernel) (by decide +kernel)), (mw 777 (by decide +kernel) (by decide +kernel)), ⟨(by decide +kernel), (by decide +kernel), (by decide +kernel)⟩⟩
theorem cv_L_110 : CV RL 110 RX11 yX11_undo cX11_undo 2 (some .int) 0 := ⟨(mw 825 (by decide +kernel) (by decide +kernel)), (mw 826 (by decide +kernel) (by decide +kernel)), (mw 827 (by decide +kernel) (by decide +kernel)), (mw 68 (by decide +kernel) (by decide +kernel)), (mw 828 (by decide +kernel) (by decide +kernel)), ⟨(by decide +kernel), (by decide +kernel), (by decide +kernel)⟩⟩
theorem cv_L_102 : CV RL 102 RX11 yX11_keep cX11_keep 2 (some .int) 0 := ⟨(mw 830 (by decide +kernel) (by decide +kernel)), (mw 831 (by decide +kernel) (by decide +kernel)), (mw 832 (by decide +kernel) (by decide +kernel)), (mw 68 (by decide +kernel) (by decide +kernel)), (mw 833 (by decide +kernel) (by decide +kernel)), ⟨(by decide +kernel), (by decide +kernel), (by decide +kernel)⟩⟩
theorem cv_L_106 : CV RL 106 RX11 yX11_restore cX11_restore 2 (some .int) 0 := ⟨(mw 834 (by decide +kernel) (by decide +kernel)), (mw 835 (by decide +kernel) (by decide +kernel)), (mw 836 (by decide +kernel) (by decide +kernel)), (mw 68 (by decide +kernel) (by decide +kernel)), (mw 837 (by decide +kernel) (by decide +kernel)), ⟨(by decide +kernel), (by decide +kernel), (by decide +kernel)⟩⟩
theorem cv_11_45 : CV RX11 45 RX11 yX11_record cX11_record 2 none 0 := ⟨(mw 838 (by decide +kernel) (by decide +kernel)), (mw 840 (by decide +kernel) (by decide +kernel)), (mw 19 (by decide +kernel) (by decide +kernel)), (mw 68 (by decide +kernel) (by decide +kernel)), (mw 841 (by decide +kernel) (by decide +kernel)), ⟨(by decide +kernel), (by decide +kernel), (by decide +kernel)⟩⟩
theorem cv_L_62 : CV RL 62 RX11 yX11_value cX11_value 5 (some .long) 4 := ⟨(mw 842 (by decide +kernel) (by decide +kernel)), (mw 843 (by decide +kernel) (by decide +kernel)), (mw 844 (by decide +kernel) (by decide +kernel)), (mw 68 (by decide +kernel) (by decide +kernel)), (mw 845 (by decide +kernel) (by decide +kernel)), ⟨(by decide +kernel), (by decide +kernel), (by decide +kernel)⟩⟩
theorem cv_11_59 : CV RX11 59 RX11 yX11_arePlace cX11_arePlace 4 (some .boolean) 3 := ⟨(mw 846 (by decide +kernel) (by decide +kernel)), (mw 848 (by decide +kernel) (by decide +kernel)), (mw 20 (by decide +kernel) (by decide +kernel)), (mw 68 (by decide +kernel) (by decide +kernel)), (mw 849 (by decide +kernel) (by decide +kernel)), ⟨(by decide +kernel), (by decide +kernel), (by decide +kernel)⟩⟩
theorem cv_11_48 : CS RX11 48 yX11_in cX11_in 3 (some .boolean) 3 := ⟨(mw 850 (by decide +kernel) (by decide +kernel)), (mw 851 (by decide +kernel) (by decide +kernel)), (mw 68 (by decide +kernel) (by decide +kernel)), (mw 852 (by decide +kernel) (by decide +kernel)), ⟨(by decide +kernel), (by decide +kernel), (by decide +kernel)⟩⟩
theorem cv_11_52 : CV RX11 52 RX11 yX11_areOfVariables cX11_areOfVariables 4 (some .boolean) 3 := ⟨(mw 853 (by decide +kernel) (by decide +kernel)), (mw 855 (by decide +kernel) (by decide +kernel)), (mw 21 (by decide +kernel) (by decide +kernel)), (mw 68 (by decide +kernel) (by decide +kernel)), (mw 856 (by decide +kernel) (by decide +kernel)), ⟨(by decide +kernel), (by decide +kernel), (by decide +kernel)⟩⟩
theorem cv_11_64 : CV RX11 64 RX11 yX11_valueAt cX11_valueAt 10 (some .long) 4 := ⟨(mw 858 (by decide +kernel) (by decide +kernel)), (mw 860 (by decide +kernel) (by decide +kernel)), (mw 22 (by decide +kernel) (by decide +kernel)), (mw 68 (by decide +kernel) (by decide +kernel)), (mw 861 (by decide +kernel) (by decide +kernel)), ⟨(by decide +kernel), (by decide +kernel), (by decide +kernel)⟩⟩
theorem cv_11_55 : CS RX11 55 yX11_power cX11_power 5 (some .long) 2 := ⟨(mw 862 (by decide +kernel) (by decide +kernel)), (mw 863 (by decide +kernel) (by decide +kernel)), (mw 68 (by decide +kernel) (by decide +kernel)), (mw 864 (by decide +kernel) (by decide +kernel)), ⟨(by decide +kernel), (by decide +kernel), (by decide +kernel)⟩⟩
theorem cv_L_17 : CV RL 17 RX11 yX11_variables cX11_variables 3 (some .int) 1 := ⟨(mw 866 (by decide +kernel) (by decide +kernel)), (mw 867 (by decide +kernel) (by decide +kernel)), (mw 868 (by decide +kernel) (by decide +kernel)), (mw 68 (by decide +kernel) (by decide +kernel)), (mw 869 (by decide +kernel) (by decide +kernel)), ⟨(by decide +kernel), (by decide +kernel), (by decide +kernel)⟩⟩
theorem cv_L_22 : CV RL 22 RX11 yX11_term cX11_term 6 (some .int) 4 := ⟨(mw 871 (by decide +kernel) (by decide +kernel)), (mw 872 (by decide +kernel) (by decide +kernel)), (mw 873 (by decide +kernel) (by decide +kernel)), (mw 68 (by decide +kernel) (by decide +kernel)), (mw 874 (by decide +kernel) (by decide +kernel)), ⟨(by decide +kernel), (by decide +kernel), (by decide +kernel)⟩⟩
theorem cv_11_71 : CV RX11 71 RX11 yX11_termMany cX11_termMany 1 (some .int) 0 := ⟨(mw 875 (by decide +kernel) (by decide +kernel)), (mw 877 (by decide +kernel) (by decide +kernel)), (mw 23 (by decide +kernel) (by decide +kernel)), (mw 68 (by decide +kernel) (by decide +kernel)), (mw 878 (by decide +kernel) (by decide +kernel)), ⟨(by decide +kernel), (by decide +kernel), (by decide +kernel)⟩⟩
theorem cv_11_76 : CV RX11 76 RX11 yX11_putTerm cX11_putTerm 6 none 5 := ⟨(mw 880 (by decide +kernel) (by decide +kernel)), (mw 882 (by decide +kernel) (by decide +kernel)), (mw 24 (by decide +kernel) (by decide +kernel)), (mw 68 (by decide +kernel) (by decide +kernel)), (mw 883 (by decide +kernel) (by decide +kernel)), ⟨(by decide +kernel), (by decide +kernel), (by decide +kernel)⟩⟩
theorem cv_11_80 : CV RX11 80 RX11 yX11_oneMore cX11_oneMore 2 (some .int) 1 := ⟨(mw 884 (by decide +kernel) (by decide +kernel)), (mw 886 (by decide +kernel) (by decide +kernel)), (mw 25 (by decide +kernel) (by decide +kernel)), (mw 68 (by decide +kernel) (by decide +kernel)), (mw 887 (by decide +kernel) (by decide +kernel)), ⟨(by decide +kernel), (by decide +kernel), (by decide +kernel)⟩⟩
theorem cv_L_26 : CV RL 26 RX11 yX11_dropTerm cX11_dropTerm 4 (some .int) 1 := ⟨(mw 888 (by decide +kernel) (by decide +kernel)), (mw 889 (by decide +kernel) (by decide +kernel)), (mw 890 (by decide +kernel) (by decide +kernel)), (mw 68 (by decide +kernel) (by decide +kernel)), (mw 891 (by decide +kernel) (by decide +kernel)), ⟨(by decide +kernel), (by decide +kernel), (by decide +kernel)⟩⟩
theorem cv_L_31 : CV RL 31 RX11 yX11_bound cX11_bound 4 (some .int) 3 := ⟨(mw 892 (by decide +kernel) (by decide +kernel)), (mw 893 (by decide +kernel) (by decide +kernel)), (mw 894 (by decide +kernel) (by decide +kernel)), (mw 68 (by decide +kernel) (by decide +kernel)), (mw 895 (by decide +kernel) (by decide +kernel)), ⟨(by decide +kernel), (by decide +kernel), (by decide +kernel)⟩⟩
theorem cv_11_87 : CV RX11 87 RX11 yX11_isVariable cX11_isVariable 2 (some .boolean) 1 := ⟨(mw 896 (by decide +kernel) (by decide +kernel)), (mw 898 (by decide +kernel) (by decide +kernel)), (mw 26 (by decide +kernel) (by decide +kernel)), (mw 68 (by decide +kernel) (by decide +kernel)), (mw 899 (by decide +kernel) (by decide +kernel)), ⟨(by decide +kernel), (by decide +kernel), (by decide +kernel)⟩⟩
theorem cv_11_91 : CV RX11 91 RX11 yX11_isHereAllowed cX11_isHereAllowed 1 (some .boolean) 0 := ⟨(mw 900 (by decide +kernel) (by decide +kernel)), (mw 902 (by decide +kernel) (by decide +kernel)), (mw 27 (by decide +kernel) (by decide +kernel)), (mw 68 (by decide +kernel) (by decide +kernel)), (mw 903 (by decide +kernel) (by decide +kernel)), ⟨(by decide +kernel), (by decide +kernel), (by decide +kernel)⟩⟩
theorem cv_11_84 : CV RX11 84 RX11 yX11_isAllowed cX11_isAllowed 4 (some .boolean) 3 := ⟨(mw 904 (by decide +kernel) (by decide +kernel)), (mw 906 (by decide +kernel) (by decide +kernel)), (mw 28 (by decide +kernel) (by decide +kernel)), (mw 68 (by decide +kernel) (by decide +kernel)), (mw 907 (by decide +kernel) (by decide +kernel)), ⟨(by decide +kernel), (by decide +kernel), (by decide +kernel)⟩⟩
theorem cv_L_35 : CV RL 35 RX11 yX11_direction cX11_direction 6 (some .int) 3 := ⟨(mw 908 (by decide +kernel) (by decide +kernel)), (mw 909 (by decide +kernel) (by decide +kernel)), (mw 910 (by decide +kernel) (by decide +kernel)), (mw 68 (by decide +kernel) (by decide +kernel)), (mw 911 (by decide +kernel) (by decide +kernel)), ⟨(by decide +kernel), (by decide +kernel), (by decide +kernel)⟩⟩
theorem cv_11_95 : CV RX11 95 RX11 yX11_directionMany cX11_directionMany 1 (some .int) 0 := ⟨(mw 912 (by decide +kernel) (by decide +kernel)), (mw 914 (by decide +kernel) (by decide +kernel)), (mw 29 (by decide +kernel) (by decide +kernel)), (mw 68 (by decide +kernel) (by decide +kernel)), (mw 915 (by decide +kernel) (by decide +kernel)), ⟨(by decide +kernel), (by decide +kernel), (by decide +kernel)⟩⟩
theorem cv_11_98 : CV RX11 98 RX11 yX11_step cX11_step 3 (some .int) 2 := ⟨(mw 916 (by decide +kernel) (by decide +kernel)), (mw 918 (by decide +kernel) (by decide +kernel)), (mw 30 (by decide +kernel) (by decide +kernel)), (mw 68 (by decide +kernel) (by decide +kernel)), (mw 919 (by decide +kernel) (by decide +kernel)), ⟨(by decide +kernel), (by decide +kernel), (by decide +kernel)⟩⟩
theorem cv_11_102 : CV RX11 102 RX11 yX11_putDirection cX11_putDirection 5 none 4 := ⟨(mw 920 (by decide +kernel) (by decide +kernel)), (mw 922 (by decide +kernel) (by decide +kernel)), (mw 31 (by decide +kernel) (by decide +kernel)), (mw 68 (by decide +kernel) (by decide +kernel)), (mw 923 (by decide +kernel) (by decide +kernel)), ⟨(by decide +kernel), (by decide +kernel), (by decide +kernel)⟩⟩
theorem cv_L_39 : CV RL 39 RX11 yX11_dropDirection cX11_dropDirection 3 (some .int) 1 := ⟨(mw 924 (by decide +kernel) (by decide +kernel)), (mw 925 (by decide +kernel) (by decide +kernel)), (mw 926 (by decide +kernel) (by decide +kernel)), (mw 68 (by decide +kernel) (by decide +kernel)), (mw 927 (by decide +kernel) (by decide +kernel)), ⟨(by decide +kernel), (by decide +kernel), (by decide +kernel)⟩⟩
theorem cv_L_43 : CV RL 43 RX11 yX11_start cX11_start 5 (some .int) 4 := ⟨(mw 928 (by decide +kernel) (by decide +kernel)), (mw 929 (by decide +kernel) (by decide +kernel)), (mw 930 (by decide +kernel) (by decide +kernel)), (mw 68 (by decide +kernel) (by decide +kernel)), (mw 931 (by decide +kernel) (by decide +kernel)), ⟨(by decide +kernel), (by decide +kernel), (by decide +kernel)⟩⟩
theorem cv_11_106 : CV RX11 106 RX11 yX11_clearSearch cX11_clearSearch 3 none 1 := ⟨(mw 932 (by decide +kernel) (by decide +kernel)), (mw 934 (by decide +kernel) (by decide +kernel)), (mw 32 (by decide +kernel) (by decide +kernel)), (mw 68 (by decide +kernel) (by decide +kernel)), (mw 935 (by decide +kernel) (by decide +kernel)), ⟨(by decide +kernel), (by decide +kernel), (by decide +kernel)⟩⟩
theorem cv_11_109 : CV RX11 109 RX11 yX11_putPlace cX11_putPlace 4 none 3 := ⟨(mw 936 (by decide +kernel) (by decide +kernel)), (mw 938 (by decide +kernel) (by decide +kernel)), (mw 33 (by decide +kernel) (by decide +kernel)), (mw 68 (by decide +kernel) (by decide +kernel)), (mw 939 (by decide +kernel) (by decide +kernel)), ⟨(by decide +kernel), (by decide +kernel), (by decide +kernel)⟩⟩
theorem cv_L_48 : CV RL 48 RX11 yX11_order cX11_order 4 (some .int) 2 := ⟨(mw 940 (by decide +kernel) (by decide +kernel)), (mw 941 (by decide +kernel) (by decide +kernel)), (mw 942 (by decide +kernel) (by decide +kernel)), (mw 68 (by decide +kernel) (by decide +kernel)), (mw 943 (by decide +kernel) (by decide +kernel)), ⟨(by decide +kernel), (by decide +kernel), (by decide +kernel)⟩⟩
theorem cv_L_53 : CV RL 53 RX11 yX11_poll cX11_poll 1 (some .int) 0 := ⟨(mw 944 (by decide +kernel) (by decide +kernel)), (mw 945 (by decide +kernel) (by decide +kernel)), (mw 946 (by decide +kernel) (by decide +kernel)), (mw 68 (by decide +kernel) (by decide +kernel)), (mw 947 (by decide +kernel) (by decide +kernel)), ⟨(by decide +kernel), (by decide +kernel), (by decide +kernel)⟩⟩
theorem cv_11_145 : CV RX11 145 RX11 yX11_canPoll cX11_canPoll 1 (some .boolean) 0 := ⟨(mw 948 (by decide +kernel) (by decide +kernel)), (mw 950 (by decide +kernel) (by decide +kernel)), (mw 34 (by decide +kernel) (by decide +kernel)), (mw 68 (by decide +kernel) (by decide +kernel)), (mw 951 (by decide +kernel) (by decide +kernel)), ⟨(by decide +kernel), (by decide +kernel), (by decide +kernel)⟩⟩
theorem cv_11_148 : CV RX11 148 RX11 yX11_pollOnce cX11_pollOnce 8 (some .int) 0 := ⟨(mw 952 (by decide +kernel) (by decide +kernel)), (mw 954 (by decide +kernel) (by decide +kernel)), (mw 35 (by decide +kernel) (by decide +kernel)), (mw 68 (by decide +kernel) (by decide +kernel)), (mw 955 (by decide +kernel) (by decide +kernel)), ⟨(by decide +kernel), (by decide +kernel), (by decide +kernel)⟩⟩
theorem cv_11_134 : CV RX11 134 RX11 yX11_layRow cX11_layRow 7 none 0 := ⟨(mw 956 (by decide +kernel) (by decide +kernel)), (mw 958 (by decide +kernel) (by decide +kernel)), (mw 36 (by decide +kernel) (by decide +kernel)), (mw 68 (by decide +kernel) (by decide +kernel)), (mw 959 (by decide +kernel) (by decide +kernel)), ⟨(by decide +kernel), (by decide +kernel), (by decide +kernel)⟩⟩
theorem cv_11_124 : CV RX11 124 RX11 yX11_isTrialAllowed cX11_isTrialAllowed 3 (some .boolean) 2 := ⟨(mw 960 (by decide +kernel) (by decide +kernel)), (mw 962 (by decide +kernel) (by decide +kernel)), (mw 37 (by decide +kernel) (by decide +kernel)), (mw 68 (by decide +kernel) (by decide +kernel)), (mw 963 (by decide +kernel) (by decide +kernel)), ⟨(by decide +kernel), (by decide +kernel), (by decide +kernel)⟩⟩
theorem cv_11_113 : CV RX11 113 RX11 yX11_trialAt cX11_trialAt 4 (some .int) 3 := ⟨(mw 964 (by decide +kernel) (by decide +kernel)), (mw 966 (by decide +kernel) (by decide +kernel)), (mw 38 (by decide +kernel) (by decide +kernel)), (mw 68 (by decide +kernel) (by decide +kernel)), (mw 967 (by decide +kernel) (by decide +kernel)), ⟨(by decide +kernel), (by decide +kernel), (by decide +kernel)⟩⟩
theorem cv_11_128 : CV RX11 128 RX11 yX11_isAhead cX11_isAhead 4 (some .boolean) 3 := ⟨(mw 968 (by decide +kernel) (by decide +kernel)), (mw 970 (by decide +kernel) (by decide +kernel)), (mw 39 (by decide +kernel) (by decide +kernel)), (mw 68 (by decide +kernel) (by decide +kernel)), (mw 971 (by decide +kernel) (by decide +kernel)), ⟨(by decide +kernel), (by decide +kernel), (by decide +kernel)⟩⟩
theorem cv_11_117 : CV RX11 117 RX11 yX11_trialValue cX11_trialValue 4 (some .long) 3 := ⟨(mw 972 (by decide +kernel) (by decide +kernel)), (mw 974 (by decide +kernel) (by decide +kernel)), (mw 40 (by decide +kernel) (by decide +kernel)), (mw 68 (by decide +kernel) (by decide +kernel)), (mw 975 (by decide +kernel) (by decide +kernel)), ⟨(by decide +kernel), (by decide +kernel), (by decide +kernel)⟩⟩
theorem cv_11_137 : CV RX11 137 RX11 yX11_valueHere cX11_valueHere 1 (some .long) 0 := ⟨(mw 976 (by decide +kernel) (by decide +kernel)), (mw 978 (by decide +kernel) (by decide +kernel)), (mw 41 (by decide +kernel) (by decide +kernel)), (mw 68 (by decide +kernel) (by decide +kernel)), (mw 979 (by decide +kernel) (by decide +kernel)), ⟨(by decide +kernel), (by decide +kernel), (by decide +kernel)⟩⟩
theorem cv_11_141 : CV RX11 141 RX11 yX11_take cX11_take 3 none 2 := ⟨(mw 980 (by decide +kernel) (by decide +kernel)), (mw 982 (by decide +kernel) (by decide +kernel)), (mw 42 (by decide +kernel) (by decide +kernel)), (mw 68 (by decide +kernel) (by decide +kernel)), (mw 983 (by decide +kernel) (by decide +kernel)), ⟨(by decide +kernel), (by decide +kernel), (by decide +kernel)⟩⟩
theorem cv_11_131 : CV RX11 131 RX11 yX11_leave cX11_leave 2 none 0 := ⟨(mw 984 (by decide +kernel) (by decide +kernel)), (mw 986 (by decide +kernel) (by decide +kernel)), (mw 43 (by decide +kernel) (by decide +kernel)), (mw 68 (by decide +kernel) (by decide +kernel)), (mw 987 (by decide +kernel) (by decide +kernel)), ⟨(by decide +kernel), (by decide +kernel), (by decide +kernel)⟩⟩
theorem cv_L_57 : CV RL 57 RX11 yX11_run cX11_run 4 (some .int) 1 := ⟨(mw 988 (by decide +kernel) (by decide +kernel)), (mw 989 (by decide +kernel) (by decide +kernel)), (mw 990 (by decide +kernel) (by decide +kernel)), (mw 68 (by decide +kernel) (by decide +kernel)), (mw 991 (by decide +kernel) (by decide +kernel)), ⟨(by decide +kernel), (by decide +kernel), (by decide +kernel)⟩⟩
theorem cv_L_66 : CV RL 66 RX11 yX11_termOf cX11_termOf 3 (some .int) 2 := ⟨(mw 992 (by decide +kernel) (by decide +kernel)), (mw 993 (by decide +kernel) (by decide +kernel)), (mw 994 (by decide +kernel) (by decide +kernel)), (mw 68 (by decide +kernel) (by decide +kernel)), (mw 995 (by decide +kernel) (by decide +kernel)), ⟨(by decide +kernel), (by decide +kernel), (by decide +kernel)⟩⟩
theorem cv_L_70 : CV RL 70 RX11 yX11_directionOf cX11_directionOf 3 (some .int) 2 := ⟨(mw 997 (by decide +kernel) (by decide +kernel)), (mw 998 (by decide +kernel) (by decide +kernel)), (mw 999 (by decide +kernel) (by decide +kernel)), (mw 68 (by decide +kernel) (by decide +kernel)), (mw 1000 (by decide +kernel) (by decide +kernel)), ⟨(by decide +kernel), (by decide +kernel), (by decide +kernel)⟩⟩
theorem cv_L_74 : CV RL 74 RX11 yX11_searchOf cX11_searchOf 2 (some .int) 1 := ⟨(mw 1001 (by decide +kernel) (by decide +kernel)), (mw 1002 (by decide +kernel) (by decide +kernel)), (mw 1003 (by decide +kernel) (by decide +kernel)), (mw 68 (by decide +kernel) (by decide +kernel)), (mw 1004 (by decide +kernel) (by decide +kernel)), ⟨(by decide +kernel), (by decide +kernel), (by decide +kernel)⟩⟩
theorem cv_L_78 : CV RL 78 RX11 yX11_leftAt cX11_leftAt 3 (some .int) 2 := ⟨(mw 1005 (by decide +kernel) (by decide +kernel)), (mw 1006 (by decide +kernel) (by decide +kernel)), (mw 1007 (by decide +kernel) (by decide +kernel)), (mw 68 (by decide +kernel) (by decide +kernel)), (mw 1008 (by decide +kernel) (by decide +kernel)), ⟨(by decide +kernel), (by decide +kernel), (by decide +kernel)⟩⟩
theorem cv_L_82 : CV RL 82 RX11 yX11_count cX11_count 4 (some .int) 1 := ⟨(mw 1009 (by decide +kernel) (by decide +kernel)), (mw 1010 (by decide +kernel) (by decide +kernel)), (mw 1011 (by decide +kernel) (by decide +kernel)), (mw 68 (by decide +kernel) (by decide +kernel)), (mw 1012 (by decide +kernel) (by decide +kernel)), ⟨(by decide +kernel), (by decide +kernel), (by decide +kernel)⟩⟩
theorem cv_L_86 : CV RL 86 RX11 yX11_trialOf cX11_trialOf 4 (some .int) 2 := ⟨(mw 1013 (by decide +kernel) (by decide +kernel)), (mw 1014 (by decide +kernel) (by decide +kernel)), (mw 1015 (by decide +kernel) (by decide +kernel)), (mw 68 (by decide +kernel) (by decide +kernel)), (mw 1016 (by decide +kernel) (by decide +kernel)), ⟨(by decide +kernel), (by decide +kernel), (by decide +kernel)⟩⟩
theorem cv_L_90 : CV RL 90 RX11 yX11_spans cX11_spans 2 (some .int) 0 := ⟨(mw 1017 (by decide +kernel) (by decide +kernel)), (mw 1018 (by decide +kernel) (by decide +kernel)), (mw 1019 (by decide +kernel) (by decide +kernel)), (mw 68 (by decide +kernel) (by decide +kernel)), (mw 1020 (by decide +kernel) (by decide +kernel)), ⟨(by decide +kernel), (by decide +kernel), (by decide +kernel)⟩⟩
theorem cv_11_158 : CV RX11 158 RX11 yX11_isBarredBoth cX11_isBarredBoth 4 (some .boolean) 3 := ⟨(mw 1021 (by decide +kernel) (by decide +kernel)), (mw 1023 (by decide +kernel) (by decide +kernel)), (mw 44 (by decide +kernel) (by decide +kernel)), (mw 68 (by decide +kernel) (by decide +kernel)), (mw 1024 (by decide +kernel) (by decide +kernel)), ⟨(by decide +kernel), (by decide +kernel), (by decide +kernel)⟩⟩
theorem cv_11_155 : CV RX11 155 RX11 yX11_isBarred cX11_isBarred 6 (some .boolean) 3 := ⟨(mw 1025 (by decide +kernel) (by decide +kernel)), (mw 1027 (by decide +kernel) (by decide +kernel)), (mw 45 (by decide +kernel) (by decide +kernel)), (mw 68 (by decide +kernel) (by decide +kernel)), (mw 1028 (by decide +kernel) (by decide +kernel)), ⟨(by decide +kernel), (by decide +kernel), (by decide +kernel)⟩⟩
theorem cv_11_161 : CV RX11 161 RX11 yX11_spanTwo cX11_spanTwo 3 (some .boolean) 0 := ⟨(mw 1029 (by decide +kernel) (by decide +kernel)), (mw 1031 (by decide +kernel) (by decide +kernel)), (mw 46 (by decide +kernel) (by decide +kernel)), (mw 68 (by decide +kernel) (by decide +kernel)), (mw 1032 (by decide +kernel) (by decide +kernel)), ⟨(by decide +kernel), (by decide +kernel), (by decide +kernel)⟩⟩
theorem cv_11_164 : CV RX11 164 RX11 yX11_spanThree cX11_spanThree 9 (some .boolean) 0 := ⟨(mw 1033 (by decide +kernel) (by decide +kernel)), (mw 1035 (by decide +kernel) (by decide +kernel)), (mw 47 (by decide +kernel) (by decide +kernel)), (mw 68 (by decide +kernel) (by decide +kernel)), (mw 1036 (by decide +kernel) (by decide +kernel)), ⟨(by decide +kernel), (by decide +kernel), (by decide +kernel)⟩⟩
theorem cv_L_94 : CV RL 94 RX11 yX11_stuck cX11_stuck 4 (some .int) 1 := ⟨(mw 1037 (by decide +kernel) (by decide +kernel)), (mw 1038 (by decide +kernel) (by decide +kernel)), (mw 1039 (by decide +kernel) (by decide +kernel)), (mw 68 (by decide +kernel) (by decide +kernel)), (mw 1040 (by decide +kernel) (by decide +kernel)), ⟨(by decide +kernel), (by decide +kernel), (by decide +kernel)⟩⟩
theorem cv_L_98 : CV RL 98 RX11 yX11_around cX11_around 3 (some .int) 2 := ⟨(mw 1041 (by decide +kernel) (by decide +kernel)), (mw 1042 (by decide +kernel) (by decide +kernel)), (mw 1043 (by decide +kernel) (by decide +kernel)), (mw 68 (by decide +kernel) (by decide +kernel)), (mw 1044 (by decide +kernel) (by decide +kernel)), ⟨(by decide +kernel), (by decide +kernel), (by decide +kernel)⟩⟩
theorem cv_11_167 : CV RX11 167 RX11 yX11_layAround cX11_layAround 14 none 1 := ⟨(mw 1045 (by decide +kernel) (by decide +kernel)), (mw 1047 (by decide +kernel) (by decide +kernel)), (mw 48 (by decide +kernel) (by decide +kernel)), (mw 68 (by decide +kernel) (by decide +kernel)), (mw 1048 (by decide +kernel) (by decide +kernel)), ⟨(by decide +kernel), (by decide +kernel), (by decide +kernel)⟩⟩
theorem cv_L_114 : CV RL 114 RX11 yX11_type cX11_type 2 (some .int) 1 := ⟨(mw 1049 (by decide +kernel) (by decide +kernel)), (mw 1050 (by decide +kernel) (by decide +kernel)), (mw 1051 (by decide +kernel) (by decide +kernel)), (mw 68 (by decide +kernel) (by decide +kernel)), (mw 1052 (by decide +kernel) (by decide +kernel)), ⟨(by decide +kernel), (by decide +kernel), (by decide +kernel)⟩⟩
theorem cv_L_118 : CV RL 118 RX11 yX11_clearText cX11_clearText 2 (some .int) 0 := ⟨(mw 1053 (by decide +kernel) (by decide +kernel)), (mw 1054 (by decide +kernel) (by decide +kernel)), (mw 1055 (by decide +kernel) (by decide +kernel)), (mw 68 (by decide +kernel) (by decide +kernel)), (mw 1056 (by decide +kernel) (by decide +kernel)), ⟨(by decide +kernel), (by decide +kernel), (by decide +kernel)⟩⟩
theorem cv_L_122 : CV RL 122 RX11 yX11_fault cX11_fault 2 (some .int) 1 := ⟨(mw 1057 (by decide +kernel) (by decide +kernel)), (mw 1058 (by decide +kernel) (by decide +kernel)), (mw 1059 (by decide +kernel) (by decide +kernel)), (mw 68 (by decide +kernel) (by decide +kernel)), (mw 1060 (by decide +kernel) (by decide +kernel)), ⟨(by decide +kernel), (by decide +kernel), (by decide +kernel)⟩⟩
theorem cv_11_201 : CV RX11 201 RX11 yX11_readText cX11_readText 3 none 0 := ⟨(mw 1061 (by decide +kernel) (by decide +kernel)), (mw 1063 (by decide +kernel) (by decide +kernel)), (mw 49 (by decide +kernel) (by decide +kernel)), (mw 68 (by decide +kernel) (by decide +kernel)), (mw 1064 (by decide +kernel) (by decide +kernel)), ⟨(by decide +kernel), (by decide +kernel), (by decide +kernel)⟩⟩
theorem cv_11_179 : CV RX11 179 RX11 yX11_letter cX11_letter 2 (some .int) 1 := ⟨(mw 1065 (by decide +kernel) (by decide +kernel)), (mw 1067 (by decide +kernel) (by decide +kernel)), (mw 50 (by decide +kernel) (by decide +kernel)), (mw 68 (by decide +kernel) (by decide +kernel)), (mw 1068 (by decide +kernel) (by decide +kernel)), ⟨(by decide +kernel), (by decide +kernel), (by decide +kernel)⟩⟩
theorem cv_11_197 : CV RX11 197 RX11 yX11_readTerm cX11_readTerm 4 none 1 := ⟨(mw 1069 (by decide +kernel) (by decide +kernel)), (mw 1071 (by decide +kernel) (by decide +kernel)), (mw 51 (by decide +kernel) (by decide +kernel)), (mw 68 (by decide +kernel) (by decide +kernel)), (mw 1072 (by decide +kernel) (by decide +kernel)), ⟨(by decide +kernel), (by decide +kernel), (by decide +kernel)⟩⟩
theorem cv_11_182 : CV RX11 182 RX11 yX11_isDigit cX11_isDigit 2 (some .boolean) 1 := ⟨(mw 1073 (by decide +kernel) (by decide +kernel)), (mw 1075 (by decide +kernel) (by decide +kernel)), (mw 52 (by decide +kernel) (by decide +kernel)), (mw 68 (by decide +kernel) (by decide +kernel)), (mw 1076 (by decide +kernel) (by decide +kernel)), ⟨(by decide +kernel), (by decide +kernel), (by decide +kernel)⟩⟩
theorem cv_11_185 : CV RX11 185 RX11 yX11_fail cX11_fail 2 none 1 := ⟨(mw 1077 (by decide +kernel) (by decide +kernel)), (mw 1079 (by decide +kernel) (by decide +kernel)), (mw 53 (by decide +kernel) (by decide +kernel)), (mw 68 (by decide +kernel) (by decide +kernel)), (mw 1080 (by decide +kernel) (by decide +kernel)), ⟨(by decide +kernel), (by decide +kernel), (by decide +kernel)⟩⟩
theorem cv_11_191 : CV RX11 191 RX11 yX11_readNumber cX11_readNumber 2 (some .int) 0 := ⟨(mw 1081 (by decide +kernel) (by decide +kernel)), (mw 1083 (by decide +kernel) (by decide +kernel)), (mw 54 (by decide +kernel) (by decide +kernel)), (mw 68 (by decide +kernel) (by decide +kernel)), (mw 1084 (by decide +kernel) (by decide +kernel)), ⟨(by decide +kernel), (by decide +kernel), (by decide +kernel)⟩⟩
theorem cv_11_194 : CV RX11 194 RX11 yX11_readLetters cX11_readLetters 4 none 1 := ⟨(mw 1085 (by decide +kernel) (by decide +kernel)), (mw 1087 (by decide +kernel) (by decide +kernel)), (mw 55 (by decide +kernel) (by decide +kernel)), (mw 68 (by decide +kernel) (by decide +kernel)), (mw 1088 (by decide +kernel) (by decide +kernel)), ⟨(by decide +kernel), (by decide +kernel), (by decide +kernel)⟩⟩
theorem cv_L_126 : CV RL 126 RX11 yX11_read cX11_read 2 (some .int) 0 := ⟨(mw 1089 (by decide +kernel) (by decide +kernel)), (mw 1090 (by decide +kernel) (by decide +kernel)), (mw 1091 (by decide +kernel) (by decide +kernel)), (mw 68 (by decide +kernel) (by decide +kernel)), (mw 1092 (by decide +kernel) (by decide +kernel)), ⟨(by decide +kernel), (by decide +kernel), (by decide +kernel)⟩⟩
theorem kc_10_66 : Cond.constant RX10 66 (-1000001) ∈ tb := (mw 420 (by decide +kernel) (by decide +kernel))
theorem kc_10_88 : Cond.constant RX10 88 (-1000003) ∈ tb := (mw 463 (by decide +kernel) (by decide +kernel))
theorem kc_10_93 : Cond.constant RX10 93 (-1000002) ∈ tb := (mw 472 (by decide +kernel) (by decide +kernel))
theorem kc_10_170 : Cond.constantLong RX10 170 (-1000001) ∈ tb := (mw 602 (by decide +kernel) (by decide +kernel))
theorem kc_10_172 : Cond.constantLong RX10 172 (20000000000) ∈ tb := (mw 603 (by decide +kernel) (by decide +kernel))
theorem kc_10_178 : Cond.constant RX10 178 (-1000004) ∈ tb := (mw 609 (by decide +kernel) (by decide +kernel))
theorem kc_3_21 : Cond.constantLong RX3 21 (20000000000) ∈ tb := (mw 681 (by decide +kernel) (by decide +kernel))
theorem kc_11_40 : Cond.constant RX11 40 (-1000002) ∈ tb := (mw 829 (by decide +kernel) (by decide +kernel))
theorem kc_11_62 : Cond.constantLong RX11 62 (-1000001) ∈ tb := (mw 857 (by decide +kernel) (by decide +kernel))
theorem kc_11_68 : Cond.constantLong RX11 68 (20000000000) ∈ tb := (mw 865 (by decide +kernel) (by decide +kernel))
theorem kc_11_70 : Cond.constant RX11 70 (-1000001) ∈ tb := (mw 870 (by decide +kernel) (by decide +kernel))
theorem kc_11_75 : Cond.constant RX11 75 (-1000003) ∈ tb := (mw 879 (by decide +kernel) (by decide +kernel))
theorem kc_11_151 : Cond.constant RX11 151 (-1000004) ∈ tb := (mw 996 (by decide +kernel) (by decide +kernel))
theorem bp_m99 : (Int8.ofInt (-99)).toInt32 = (-99) := by decide
theorem bp_m50 : (Int8.ofInt (-50)).toInt32 = (-50) := by decide
theorem bp_m3 : (Int8.ofInt (-3)).toInt32 = (-3) := by decide
theorem ic_m1 : Int32.ofInt (-1) = (-1) := by decide
theorem ic_0 : Int32.ofInt 0 = 0 := by decide
theorem ix_0 : ix 0 = 0 := by decide
theorem ib_0 {n : Nat} (h : 0 < n) : inb 0 n := ⟨by decide, by rw [show (0 : Int32).toInt = 0 by decide]; omega⟩
theorem nn_0 : ¬ (0 : Int32) < 0 := by decide
theorem ic_1 : Int32.ofInt 1 = 1 := by decide
theorem ix_1 : ix 1 = 1 := by decide
theorem ib_1 {n : Nat} (h : 1 < n) : inb 1 n := ⟨by decide, by rw [show (1 : Int32).toInt = 1 by decide]; omega⟩
theorem nn_1 : ¬ (1 : Int32) < 0 := by decide
theorem ic_2 : Int32.ofInt 2 = 2 := by decide
theorem ix_2 : ix 2 = 2 := by decide
theorem ib_2 {n : Nat} (h : 2 < n) : inb 2 n := ⟨by decide, by rw [show (2 : Int32).toInt = 2 by decide]; omega⟩
theorem nn_2 : ¬ (2 : Int32) < 0 := by decide
theorem ic_3 : Int32.ofInt 3 = 3 := by decide
theorem ix_3 : ix 3 = 3 := by decide
theorem ib_3 {n : Nat} (h : 3 < n) : inb 3 n := ⟨by decide, by rw [show (3 : Int32).toInt = 3 by decide]; omega⟩
theorem nn_3 : ¬ (3 : Int32) < 0 := by decide
theorem ic_4 : Int32.ofInt 4 = 4 := by decide
theorem ix_4 : ix 4 = 4 := by decide
theorem ib_4 {n : Nat} (h : 4 < n) : inb 4 n := ⟨by decide, by rw [show (4 : Int32).toInt = 4 by decide]; omega⟩
theorem nn_4 : ¬ (4 : Int32) < 0 := by decide
theorem ic_5 : Int32.ofInt 5 = 5 := by decide
theorem ix_5 : ix 5 = 5 := by decide
theorem ib_5 {n : Nat} (h : 5 < n) : inb 5 n := ⟨by decide, by rw [show (5 : Int32).toInt = 5 by decide]; omega⟩
theorem nn_5 : ¬ (5 : Int32) < 0 := by decide
theorem bp_6 : (Int8.ofInt 6).toInt32 = 6 := by decide
theorem ix_6 : ix 6 = 6 := by decide
theorem ib_6 {n : Nat} (h : 6 < n) : inb 6 n := ⟨by decide, by rw [show (6 : Int32).toInt = 6 by decide]; omega⟩
theorem nn_6 : ¬ (6 : Int32) < 0 := by decide
theorem bp_7 : (Int8.ofInt 7).toInt32 = 7 := by decide
theorem ix_7 : ix 7 = 7 := by decide
theorem ib_7 {n : Nat} (h : 7 < n) : inb 7 n := ⟨by decide, by rw [show (7 : Int32).toInt = 7 by decide]; omega⟩
theorem nn_7 : ¬ (7 : Int32) < 0 := by decide
theorem bp_8 : (Int8.ofInt 8).toInt32 = 8 := by decide
theorem ix_8 : ix 8 = 8 := by decide
theorem ib_8 {n : Nat} (h : 8 < n) : inb 8 n := ⟨by decide, by rw [show (8 : Int32).toInt = 8 by decide]; omega⟩
theorem nn_8 : ¬ (8 : Int32) < 0 := by decide
theorem bp_9 : (Int8.ofInt 9).toInt32 = 9 := by decide
theorem ix_9 : ix 9 = 9 := by decide
theorem ib_9 {n : Nat} (h : 9 < n) : inb 9 n := ⟨by decide, by rw [show (9 : Int32).toInt = 9 by decide]; omega⟩
theorem nn_9 : ¬ (9 : Int32) < 0 := by decide
theorem bp_10 : (Int8.ofInt 10).toInt32 = 10 := by decide
theorem ix_10 : ix 10 = 10 := by decide
theorem ib_10 {n : Nat} (h : 10 < n) : inb 10 n := ⟨by decide, by rw [show (10 : Int32).toInt = 10 by decide]; omega⟩
theorem nn_10 : ¬ (10 : Int32) < 0 := by decide
theorem bp_11 : (Int8.ofInt 11).toInt32 = 11 := by decide
theorem ix_11 : ix 11 = 11 := by decide
theorem ib_11 {n : Nat} (h : 11 < n) : inb 11 n := ⟨by decide, by rw [show (11 : Int32).toInt = 11 by decide]; omega⟩
theorem nn_11 : ¬ (11 : Int32) < 0 := by decide
theorem bp_12 : (Int8.ofInt 12).toInt32 = 12 := by decide
theorem ix_12 : ix 12 = 12 := by decide
theorem ib_12 {n : Nat} (h : 12 < n) : inb 12 n := ⟨by decide, by rw [show (12 : Int32).toInt = 12 by decide]; omega⟩
theorem nn_12 : ¬ (12 : Int32) < 0 := by decide
theorem bp_13 : (Int8.ofInt 13).toInt32 = 13 := by decide
theorem ix_13 : ix 13 = 13 := by decide
theorem ib_13 {n : Nat} (h : 13 < n) : inb 13 n := ⟨by decide, by rw [show (13 : Int32).toInt = 13 by decide]; omega⟩
theorem nn_13 : ¬ (13 : Int32) < 0 := by decide
theorem bp_14 : (Int8.ofInt 14).toInt32 = 14 := by decide
theorem ix_14 : ix 14 = 14 := by decide
theorem ib_14 {n : Nat} (h : 14 < n) : inb 14 n := ⟨by decide, by rw [show (14 : Int32).toInt = 14 by decide]; omega⟩
theorem nn_14 : ¬ (14 : Int32) < 0 := by decide
theorem bp_15 : (Int8.ofInt 15).toInt32 = 15 := by decide
theorem ix_15 : ix 15 = 15 := by decide
theorem ib_15 {n : Nat} (h : 15 < n) : inb 15 n := ⟨by decide, by rw [show (15 : Int32).toInt = 15 by decide]; omega⟩
theorem nn_15 : ¬ (15 : Int32) < 0 := by decide
theorem bp_16 : (Int8.ofInt 16).toInt32 = 16 := by decide
theorem ix_16 : ix 16 = 16 := by decide
theorem ib_16 {n : Nat} (h : 16 < n) : inb 16 n := ⟨by decide, by rw [show (16 : Int32).toInt = 16 by decide]; omega⟩
theorem nn_16 : ¬ (16 : Int32) < 0 := by decide
theorem bp_17 : (Int8.ofInt 17).toInt32 = 17 := by decide
theorem ix_17 : ix 17 = 17 := by decide
theorem ib_17 {n : Nat} (h : 17 < n) : inb 17 n := ⟨by decide, by rw [show (17 : Int32).toInt = 17 by decide]; omega⟩
theorem nn_17 : ¬ (17 : Int32) < 0 := by decide
theorem bp_18 : (Int8.ofInt 18).toInt32 = 18 := by decide
theorem ix_18 : ix 18 = 18 := by decide
theorem ib_18 {n : Nat} (h : 18 < n) : inb 18 n := ⟨by decide, by rw [show (18 : Int32).toInt = 18 by decide]; omega⟩
theorem nn_18 : ¬ (18 : Int32) < 0 := by decide
theorem bp_19 : (Int8.ofInt 19).toInt32 = 19 := by decide
theorem ix_19 : ix 19 = 19 := by decide
theorem ib_19 {n : Nat} (h : 19 < n) : inb 19 n := ⟨by decide, by rw [show (19 : Int32).toInt = 19 by decide]; omega⟩
theorem nn_19 : ¬ (19 : Int32) < 0 := by decide
theorem bp_20 : (Int8.ofInt 20).toInt32 = 20 := by decide
theorem ix_20 : ix 20 = 20 := by decide
theorem ib_20 {n : Nat} (h : 20 < n) : inb 20 n := ⟨by decide, by rw [show (20 : Int32).toInt = 20 by decide]; omega⟩
theorem nn_20 : ¬ (20 : Int32) < 0 := by decide
theorem bp_21 : (Int8.ofInt 21).toInt32 = 21 := by decide
theorem ix_21 : ix 21 = 21 := by decide
theorem ib_21 {n : Nat} (h : 21 < n) : inb 21 n := ⟨by decide, by rw [show (21 : Int32).toInt = 21 by decide]; omega⟩
theorem nn_21 : ¬ (21 : Int32) < 0 := by decide
theorem bp_24 : (Int8.ofInt 24).toInt32 = 24 := by decide
theorem ix_24 : ix 24 = 24 := by decide
theorem ib_24 {n : Nat} (h : 24 < n) : inb 24 n := ⟨by decide, by rw [show (24 : Int32).toInt = 24 by decide]; omega⟩
theorem nn_24 : ¬ (24 : Int32) < 0 := by decide
theorem bp_30 : (Int8.ofInt 30).toInt32 = 30 := by decide
theorem ix_30 : ix 30 = 30 := by decide
theorem ib_30 {n : Nat} (h : 30 < n) : inb 30 n := ⟨by decide, by rw [show (30 : Int32).toInt = 30 by decide]; omega⟩
theorem nn_30 : ¬ (30 : Int32) < 0 := by decide
theorem bp_31 : (Int8.ofInt 31).toInt32 = 31 := by decide
theorem ix_31 : ix 31 = 31 := by decide
theorem ib_31 {n : Nat} (h : 31 < n) : inb 31 n := ⟨by decide, by rw [show (31 : Int32).toInt = 31 by decide]; omega⟩
theorem nn_31 : ¬ (31 : Int32) < 0 := by decide
theorem bp_32 : (Int8.ofInt 32).toInt32 = 32 := by decide
theorem ix_32 : ix 32 = 32 := by decide
theorem ib_32 {n : Nat} (h : 32 < n) : inb 32 n := ⟨by decide, by rw [show (32 : Int32).toInt = 32 by decide]; omega⟩
theorem nn_32 : ¬ (32 : Int32) < 0 := by decide
theorem bp_40 : (Int8.ofInt 40).toInt32 = 40 := by decide
theorem ix_40 : ix 40 = 40 := by decide
theorem ib_40 {n : Nat} (h : 40 < n) : inb 40 n := ⟨by decide, by rw [show (40 : Int32).toInt = 40 by decide]; omega⟩
theorem nn_40 : ¬ (40 : Int32) < 0 := by decide
theorem bp_42 : (Int8.ofInt 42).toInt32 = 42 := by decide
theorem ix_42 : ix 42 = 42 := by decide
theorem ib_42 {n : Nat} (h : 42 < n) : inb 42 n := ⟨by decide, by rw [show (42 : Int32).toInt = 42 by decide]; omega⟩
theorem nn_42 : ¬ (42 : Int32) < 0 := by decide
theorem bp_43 : (Int8.ofInt 43).toInt32 = 43 := by decide
theorem ix_43 : ix 43 = 43 := by decide
theorem ib_43 {n : Nat} (h : 43 < n) : inb 43 n := ⟨by decide, by rw [show (43 : Int32).toInt = 43 by decide]; omega⟩
theorem nn_43 : ¬ (43 : Int32) < 0 := by decide
theorem bp_45 : (Int8.ofInt 45).toInt32 = 45 := by decide
theorem ix_45 : ix 45 = 45 := by decide
theorem ib_45 {n : Nat} (h : 45 < n) : inb 45 n := ⟨by decide, by rw [show (45 : Int32).toInt = 45 by decide]; omega⟩
theorem nn_45 : ¬ (45 : Int32) < 0 := by decide
theorem bp_48 : (Int8.ofInt 48).toInt32 = 48 := by decide
theorem ix_48 : ix 48 = 48 := by decide
theorem ib_48 {n : Nat} (h : 48 < n) : inb 48 n := ⟨by decide, by rw [show (48 : Int32).toInt = 48 by decide]; omega⟩
theorem nn_48 : ¬ (48 : Int32) < 0 := by decide
theorem bp_50 : (Int8.ofInt 50).toInt32 = 50 := by decide
theorem ix_50 : ix 50 = 50 := by decide
theorem ib_50 {n : Nat} (h : 50 < n) : inb 50 n := ⟨by decide, by rw [show (50 : Int32).toInt = 50 by decide]; omega⟩
theorem nn_50 : ¬ (50 : Int32) < 0 := by decide
theorem bp_57 : (Int8.ofInt 57).toInt32 = 57 := by decide
theorem ix_57 : ix 57 = 57 := by decide
theorem ib_57 {n : Nat} (h : 57 < n) : inb 57 n := ⟨by decide, by rw [show (57 : Int32).toInt = 57 by decide]; omega⟩
theorem nn_57 : ¬ (57 : Int32) < 0 := by decide
theorem bp_60 : (Int8.ofInt 60).toInt32 = 60 := by decide
theorem ix_60 : ix 60 = 60 := by decide
theorem ib_60 {n : Nat} (h : 60 < n) : inb 60 n := ⟨by decide, by rw [show (60 : Int32).toInt = 60 by decide]; omega⟩
theorem nn_60 : ¬ (60 : Int32) < 0 := by decide
theorem bp_61 : (Int8.ofInt 61).toInt32 = 61 := by decide
theorem ix_61 : ix 61 = 61 := by decide
theorem ib_61 {n : Nat} (h : 61 < n) : inb 61 n := ⟨by decide, by rw [show (61 : Int32).toInt = 61 by decide]; omega⟩
theorem nn_61 : ¬ (61 : Int32) < 0 := by decide
theorem bp_93 : (Int8.ofInt 93).toInt32 = 93 := by decide
theorem ix_93 : ix 93 = 93 := by decide
theorem ib_93 {n : Nat} (h : 93 < n) : inb 93 n := ⟨by decide, by rw [show (93 : Int32).toInt = 93 by decide]; omega⟩
theorem nn_93 : ¬ (93 : Int32) < 0 := by decide
theorem bp_99 : (Int8.ofInt 99).toInt32 = 99 := by decide
theorem ix_99 : ix 99 = 99 := by decide
theorem ib_99 {n : Nat} (h : 99 < n) : inb 99 n := ⟨by decide, by rw [show (99 : Int32).toInt = 99 by decide]; omega⟩
theorem nn_99 : ¬ (99 : Int32) < 0 := by decide
theorem bp_111 : (Int8.ofInt 111).toInt32 = 111 := by decide
theorem ix_111 : ix 111 = 111 := by decide
theorem ib_111 {n : Nat} (h : 111 < n) : inb 111 n := ⟨by decide, by rw [show (111 : Int32).toInt = 111 by decide]; omega⟩
theorem nn_111 : ¬ (111 : Int32) < 0 := by decide
theorem bp_120 : (Int8.ofInt 120).toInt32 = 120 := by decide
theorem ix_120 : ix 120 = 120 := by decide
theorem ib_120 {n : Nat} (h : 120 < n) : inb 120 n := ⟨by decide, by rw [show (120 : Int32).toInt = 120 by decide]; omega⟩
theorem nn_120 : ¬ (120 : Int32) < 0 := by decide
theorem bp_122 : (Int8.ofInt 122).toInt32 = 122 := by decide
theorem ix_122 : ix 122 = 122 := by decide
theorem ib_122 {n : Nat} (h : 122 < n) : inb 122 n := ⟨by decide, by rw [show (122 : Int32).toInt = 122 by decide]; omega⟩
theorem nn_122 : ¬ (122 : Int32) < 0 := by decide
theorem bp_126 : (Int8.ofInt 126).toInt32 = 126 := by decide
theorem ix_126 : ix 126 = 126 := by decide
theorem ib_126 {n : Nat} (h : 126 < n) : inb 126 n := ⟨by decide, by rw [show (126 : Int32).toInt = 126 by decide]; omega⟩
theorem nn_126 : ¬ (126 : Int32) < 0 := by decide
theorem sp_333 : (Int16.ofInt 333).toInt32 = 333 := by decide
theorem ix_333 : ix 333 = 333 := by decide
theorem ib_333 {n : Nat} (h : 333 < n) : inb 333 n := ⟨by decide, by rw [show (333 : Int32).toInt = 333 by decide]; omega⟩
theorem nn_333 : ¬ (333 : Int32) < 0 := by decide
theorem sp_444 : (Int16.ofInt 444).toInt32 = 444 := by decide
theorem ix_444 : ix 444 = 444 := by decide
theorem ib_444 {n : Nat} (h : 444 < n) : inb 444 n := ⟨by decide, by rw [show (444 : Int32).toInt = 444 by decide]; omega⟩
theorem nn_444 : ¬ (444 : Int32) < 0 := by decide
end
section
def fX10_within (w0 : Int32) (w1 : Int32) (w2 : Int32) : Option (Int32) :=
(if w0 < w1 then
some 0
else
(if w2 < w0 then
some 0
else
some 1))
def fX7_copyFrom (c : Nat) (o : Nat) (M : Mm) : Option (Mm) :=
bd (stI M c 0 (M.1 o 0)) fun M1 =>
bd (cpI M1 (o + 1) 0 (c + 1) 0 10) fun M2 =>
bd (cpI M2 (o + 2) 0 (c + 2) 0 30) fun M3 =>
some M3
def fX0_copyFrom (c : Nat) (o : Nat) (M : Mm) : Option (Mm) :=
bd (cpI M (o + 1) 0 (c + 1) 0 3) fun M1 =>
bd (cpI M1 (o + 2) 0 (c + 2) 0 3) fun M2 =>
some M2
def fX1_copyFrom (c : Nat) (o : Nat) (M : Mm) : Option (Mm) :=
bd (stI M c 0 (M.1 o 0)) fun M1 =>
bd (cpI M1 (o + 1) 0 (c + 1) 0 24) fun M2 =>
bd (cpI M2 (o + 2) 0 (c + 2) 0 8) fun M3 =>
some M3
def fX4_copyFrom (c : Nat) (o : Nat) (M : Mm) : Option (Mm) :=
bd (cpI M (o + 1) 0 (c + 1) 0 3) fun M1 =>
bd (stI M1 c 1 (M1.1 o 1)) fun M2 =>
bd (stI M2 c 2 (M2.1 o 2)) fun M3 =>
bd (stI M3 c 3 (M3.1 o 3)) fun M4 =>
bd (stI M4 c 4 (M4.1 o 4)) fun M5 =>
bd (stI M5 c 5 (M5.1 o 5)) fun M6 =>
bd (stI M6 c 6 (M6.1 o 6)) fun M7 =>
bd (cpI M7 (o + 2) 0 (c + 2) 0 18) fun M8 =>
gd ((M8.1 o 8) = 0 ∨ (M8.1 o 8) = 1) <|
bd (stI M8 c 8 (M8.1 o 8)) fun M10 =>
some M10
def fX6_copyFrom (c : Nat) (o : Nat) (M : Mm) : Option (Mm) :=
bd (stI M c 0 (M.1 o 0)) fun M1 =>
bd (stI M1 c 1 (M1.1 o 1)) fun M2 =>
bd (stI M2 c 2 (M2.1 o 2)) fun M3 =>
b1 (fX7_copyFrom (c + 1) (o + 1) M3) fun M5 =>
b1 (fX0_copyFrom (c + 4) (o + 4) M5) fun M7 =>
b1 (fX1_copyFrom (c + 7) (o + 7) M7) fun M9 =>
b1 (fX4_copyFrom (c + 10) (o + 10) M9) fun M11 =>
some M11
def fX2_push (M : Mm) : Option (Mm) :=
b1 (fX6_copyFrom 54 41 M) fun M2 =>
b1 (fX6_copyFrom 41 28 M2) fun M4 =>
b1 (fX6_copyFrom 28 15 M4) fun M6 =>
b1 (fX6_copyFrom 15 1 M6) fun M8 =>
bd (stI M8 14 0 (if 4 < ((M8.1 14 0) + 1) then 4 else ((M8.1 14 0) + 1))) fun M9 =>
some M9
def fX0_reset_L2 : (Int32 × Mm) → Option ((Int32 × Mm) ⊕ (Mm)) :=
u2 (fun (x1 : Int32) (M2 : Mm) =>
(if 3 ≤ x1 then
some (Sum.inr M2)
else
gd (inb x1 3) <|
bd (stI M2 6 (ix x1) (-50)) fun M5 =>
bd (stI M5 7 (ix x1) 50) fun M6 =>
bd (x1 + 1) fun x7 =>
some (Sum.inl (x7, M6))))
def fX0_reset (M : Mm) : Option (Mm) :=
b1 (itr (fX0_reset_L2) 1000 (0, M)) fun M9 =>
some M9
def fX1_add (M : Mm) (w1 : Int32) (w2 : Int32) (w3 : Int32) : Option (Mm) :=
(if (M.1 8 0) < 8 then
gd (inb (3 * (M.1 8 0)) 24) <|
bd (stI M 9 (ix (3 * (M.1 8 0))) w1) fun M3 =>
gd (inb ((3 * (M3.1 8 0)) + 1) 24) <|
bd (stI M3 9 (ix ((3 * (M3.1 8 0)) + 1)) w2) fun M5 =>
gd (inb ((3 * (M5.1 8 0)) + 2) 24) <|
bd (stI M5 9 (ix ((3 * (M5.1 8 0)) + 2)) w3) fun M7 =>
gd (inb (M7.1 8 0) 8) <|
bd (stI M7 10 (ix (M7.1 8 0)) 0) fun M9 =>
bd (stI M9 8 0 ((M9.1 8 0) + 1)) fun M10 =>
some M10
else
some M)
def fX1_addAlong (M : Mm) (w1 : Int32) (w2 : Int32) : Option (Mm) :=
bd (fun (x3 : Int32) =>
bd (fun (x6 : Int32) =>
(if w1 = 2 then
b1 (fX1_add M x3 x6 w2) fun M11 =>
some M11
else
b1 (fX1_add M x3 x6 0) fun M9 =>
some M9)) fun k4 =>
(if w1 = 1 then
k4 w2
else
k4 0)) fun k1 =>
(if w1 = 0 then
k1 w2
else
k1 0)
def fX1_reset_L7 (w1 : Int32) : (Int32 × Mm) → Option ((Int32 × Mm) ⊕ (Mm)) :=
u2 (fun (x2 : Int32) (M3 : Mm) =>
(if w1 ≤ x2 then
some (Sum.inr M3)
else
b1 (fX1_addAlong M3 x2 1) fun M6 =>
b1 (fX1_addAlong M6 x2 (-1)) fun M8 =>
bd (x2 + 1) fun x9 =>
some (Sum.inl (x9, M8))))
def fX1_reset (M : Mm) (w1 : Int32) : Option (Mm) :=
bd (stI M 8 0 0) fun M1 =>
b1 (itr (fX1_reset_L7 w1) 1000 (0, M1)) fun M11 =>
some M11
def fX4_moveTo (M : Mm) (w1 : Int32) (w2 : Int32) (w3 : Int32) : Option (Mm) :=
bd (stI M 12 0 w1) fun M1 =>
bd (stI M1 12 1 w2) fun M2 =>
bd (stI M2 12 2 w3) fun M3 =>
some M3
def fX4_begin (M : Mm) (w1 : Int32) (w2 : Int32) (w3 : Int32) (w4 : Int32) : Option (Mm) :=
b1 (fX4_moveTo M w1 w2 w3) fun M2 =>
bd (stI M2 11 1 w4) fun M3 =>
bd (stI M3 11 2 0) fun M4 =>
bd (stI M4 11 3 0) fun M5 =>
bd (stI M5 11 4 0) fun M6 =>
bd (stI M6 11 5 (-1)) fun M7 =>
bd (stI M7 11 6 0) fun M8 =>
bd (stI M8 11 8 0) fun M9 =>
some M9
def fX6_reset (M : Mm) (w1 : Int32) : Option (Mm) :=
bd (stI M 1 0 w1) fun M1 =>
bd (stI M1 1 1 0) fun M2 =>
bd (stI M2 1 2 0) fun M3 =>
bd (stI M3 2 0 0) fun M4 =>
b1 (fX0_reset M4) fun M6 =>
b1 (fX1_reset M6 w1) fun M8 =>
b1 (fX4_begin M8 0 0 0 4) fun M10 =>
some M10
def fX10_variables (M : Mm) (w1 : Int32) : Option (Int32 × Mm) :=
b1 (fX10_within w1 1 3) fun x2 =>
(if x2 = 0 then
some ((-1000001), M)
else
bd (M.1 1 0) fun x4 =>
b1 (fX2_push M) fun M6 =>
b1 (fX6_reset M6 w1) fun M8 =>
some (x4, M8))
def fX11_in (w0 : Int32) (w1 : Int32) (w2 : Int32) : Option (Int32) :=
(if w0 < w1 then
some 0
else
(if w2 < w0 then
some 0
else
some 1))
def fX11_record_L50 : (Int32 × Mm) → Option ((Int32 × Mm) ⊕ (Mm)) :=
u2 (fun (x4 : Int32) (M5 : Mm) =>
(if 111 ≤ x4 then
some (Sum.inr M5)
else
gd (inb x4 111) <|
gd (inb (((M5.1 95 3) * 111) + x4) 444) <|
bd (stI M5 97 (ix (((M5.1 95 3) * 111) + x4)) (M5.1 96 (ix x4))) fun M9 =>
bd (x4 + 1) fun x10 =>
some (Sum.inl (x10, M9))))
def fX11_record_L10 : (Int32 × Mm) → Option ((Int32 × Mm) ⊕ (Mm)) :=
u2 (fun (x16 : Int32) (M17 : Mm) =>
(if 333 ≤ x16 then
some (Sum.inr M17)
else
gd (inb (x16 + 111) 444) <|
gd (inb x16 444) <|
bd (stI M17 97 (ix x16) (M17.1 97 (ix (x16 + 111)))) fun M21 =>
bd (x16 + 1) fun x22 =>
some (Sum.inl (x22, M21))))
def fX11_record (M : Mm) : Option (Mm) :=
bd (fun (M3 : Mm) =>
b1 (itr (fX11_record_L50) 1000 (0, M3)) fun M12 =>
bd (stI M12 95 3 ((M12.1 95 3) + 1)) fun M13 =>
some M13) fun k1 =>
(if (M.1 95 3) = 4 then
b1 (itr (fX11_record_L10) 1000 (0, M)) fun M24 =>
bd (stI M24 95 3 ((M24.1 95 3) - 1)) fun M25 =>
k1 M25
else
k1 M)
def fX11_begin_L2 : (Int32 × Mm) → Option ((Int32 × Mm) ⊕ (Mm)) :=
u2 (fun (x1 : Int32) (M2 : Mm) =>
(if 111 ≤ x1 then
some (Sum.inr M2)
else
gd (inb x1 111) <|
bd (stI M2 96 (ix x1) 0) fun M5 =>
bd (x1 + 1) fun x6 =>
some (Sum.inl (x6, M5))))
def fX11_begin_L45 : (Int32 × Mm) → Option ((Int32 × Mm) ⊕ (Mm)) :=
u2 (fun (x12 : Int32) (M13 : Mm) =>
(if 3 ≤ x12 then
some (Sum.inr M13)
else
gd (inb (12 + x12) 111) <|
bd (stI M13 96 (ix (12 + x12)) (-50)) fun M16 =>
gd (inb (15 + x12) 111) <|
bd (stI M16 96 (ix (15 + x12)) 50) fun M18 =>
bd (x12 + 1) fun x19 =>
some (Sum.inl (x19, M18))))
def fX11_begin_L80 (w1 : Int32) : (Int32 × Mm) → Option ((Int32 × Mm) ⊕ (Mm)) :=
u2 (fun (x22 : Int32) (M23 : Mm) =>
(if w1 ≤ x22 then
some (Sum.inr M23)
else
gd (inb ((61 + (8 * x22)) + x22) 111) <|
bd (stI M23 96 (ix ((61 + (8 * x22)) + x22)) 1) fun M26 =>
gd (inb (((61 + (8 * x22)) + 4) + x22) 111) <|
bd (stI M26 96 (ix (((61 + (8 * x22)) + 4) + x22)) (-1)) fun M28 =>
bd (x22 + 1) fun x29 =>
some (Sum.inl (x29, M28))))
def fX11_begin (M : Mm) (w1 : Int32) : Option (Mm) :=
b1 (itr (fX11_begin_L2) 1000 (0, M)) fun M8 =>
bd (stI M8 96 0 w1) fun M9 =>
bd (stI M9 96 3 2) fun M10 =>
bd (stI M10 96 9 (-1)) fun M11 =>
b1 (itr (fX11_begin_L45) 1000 (0, M11)) fun M21 =>
b1 (itr (fX11_begin_L80 w1) 1000 (0, M21)) fun M31 =>
bd (stI M31 96 2 (2 * w1)) fun M32 =>
some M32
def fX11_variables (M : Mm) (w1 : Int32) : Option (Int32 × Mm) :=
b1 (fX11_in w1 1 3) fun x2 =>
(if x2 = 0 then
some ((-1000001), M)
else
b1 (fX11_record M) fun M5 =>
bd (M5.1 96 0) fun x6 =>
b1 (fX11_begin M5 w1) fun M8 =>
some (x6, M8))
def fX6_fit (M : Mm) (w1 : Int32) (w2 : Int32) (w3 : Int32) (w4 : Int32) (w5 : Int32) : Option (Int32) :=
b1 (fX10_within w1 w4 w5) fun x2 =>
(if x2 = 0 then
some 0
else
b1 (fX10_within w2 w4 w5) fun x5 =>
(if x5 = 0 then
some 0
else
b1 (fX10_within w3 w4 w5) fun x8 =>
(if x8 = 0 then
some 0
else
bd (fun (_ : Unit) =>
(if 2 < (M.1 1 0) then
some 1
else
(if w3 = 0 then
some 1
else
some 0))) fun k10 =>
(if 1 < (M.1 1 0) then
k10 ()
else
(if w2 = 0 then
k10 ()
else
some 0)))))
def fX7_add_2 (M : Mm) (w1 : Int32) (w2 : Int32) (w3 : Int32) (w4 : Int32) : Option (Mm) :=
(if (M.1 2 0) < 10 then
gd (inb (M.1 2 0) 10) <|
bd (stI M 3 (ix (M.1 2 0)) w1) fun M3 =>
gd (inb (3 * (M3.1 2 0)) 30) <|
bd (stI M3 4 (ix (3 * (M3.1 2 0))) w2) fun M5 =>
gd (inb ((3 * (M5.1 2 0)) + 1) 30) <|
bd (stI M5 4 (ix ((3 * (M5.1 2 0)) + 1)) w3) fun M7 =>
gd (inb ((3 * (M7.1 2 0)) + 2) 30) <|
bd (stI M7 4 (ix ((3 * (M7.1 2 0)) + 2)) w4) fun M9 =>
bd (stI M9 2 0 ((M9.1 2 0) + 1)) fun M10 =>
some M10
else
some M)
def fX10_term (M : Mm) (w1 : Int32) (w2 : Int32) (w3 : Int32) (w4 : Int32) : Option (Int32 × Mm) :=
b1 (fX10_within w1 (-99) 99) fun x2 =>
(if x2 = 0 then
some ((-1000001), M)
else
(if w1 = 0 then
some ((-1000001), M)
else
b1 (fX6_fit M w2 w3 w4 0 4) fun x6 =>
(if x6 = 0 then
some ((-1000001), M)
else
(if ((w2 + w3) + w4) ≤ 4 then
(if (M.1 2 0) < 10 then
b1 (fX2_push M) fun M11 =>
b1 (fX7_add_2 M11 w1 w2 w3 w4) fun M13 =>
some (M13.1 2 0, M13)
else
some ((-1000003), M))
else
some ((-1000001), M)))))
def fX11_areOfVariables (M : Mm) (w1 : Int32) (w2 : Int32) (w3 : Int32) : Option (Int32) :=
bd (fun (_ : Unit) =>
(if 2 < (M.1 96 0) then
some 1
else
(if w3 = 0 then
some 1
else
some 0))) fun k1 =>
(if 1 < (M.1 96 0) then
k1 ()
else
(if w2 = 0 then
k1 ()
else
some 0))
def fX11_termMany (M : Mm) : Option (Int32) :=
some (M.1 96 1)
def fX11_putTerm (M : Mm) (w1 : Int32) (w2 : Int32) (w3 : Int32) (w4 : Int32) (w5 : Int32) : Option (Mm) :=
gd (inb (21 + (4 * w1)) 111) <|
bd (stI M 96 (ix (21 + (4 * w1))) w2) fun M2 =>
gd (inb ((21 + (4 * w1)) + 1) 111) <|
bd (stI M2 96 (ix ((21 + (4 * w1)) + 1)) w3) fun M4 =>
gd (inb ((21 + (4 * w1)) + 2) 111) <|
bd (stI M4 96 (ix ((21 + (4 * w1)) + 2)) w4) fun M6 =>
gd (inb ((21 + (4 * w1)) + 3) 111) <|
bd (stI M6 96 (ix ((21 + (4 * w1)) + 3)) w5) fun M8 =>
some M8
def fX11_oneMore (M : Mm) (w1 : Int32) : Option (Int32 × Mm) :=
gd (inb w1 111) <|
bd (stI M 96 (ix w1) ((M.1 96 (ix w1)) + 1)) fun M2 =>
some (M2.1 96 (ix w1), M2)
def fX11_term (M : Mm) (w1 : Int32) (w2 : Int32) (w3 : Int32) (w4 : Int32) : Option (Int32 × Mm) :=
b1 (fX11_in w1 (-99) 99) fun x2 =>
bd (fun (x5 : Int32) =>
(if x5 = 0 then
some ((-1000001), M)
else
(if 4 < ((w2 + w3) + w4) then
some ((-1000001), M)
else
b1 (fX11_areOfVariables M w2 w3 w4) fun x9 =>
(if x9 = 0 then
some ((-1000001), M)
else
b1 (fX11_termMany M) fun x12 =>
(if x12 = 10 then
some ((-1000003), M)
else
b1 (fX11_record M) fun M15 =>
b1 (fX11_termMany M15) fun x17 =>
b1 (fX11_putTerm M15 x17 w1 w2 w3 w4) fun M19 =>
b2 (fX11_oneMore M19 1) fun x21 M22 =>
some (x21, M22)))))) fun k3 =>
bd (fun (_ : Unit) =>
k3 0) fun k23 =>
(if x2 = 0 then
k23 ()
else
(if w1 = 0 then
k23 ()
else
b1 (fX11_in w2 0 4) fun x28 =>
(if x28 = 0 then
k23 ()
else
b1 (fX11_in w3 0 4) fun x31 =>
(if x31 = 0 then
k23 ()
else
b1 (fX11_in w4 0 4) fun x34 =>
(if x34 = 0 then
k23 ()
else
k3 1)))))
def fX10_closeGap_L5 (w1 : Int32) (w3 : Int32) (n : Nat) (a : Nat) : (Int32 × Mm) → Option ((Int32 × Mm) ⊕ (Mm)) :=
u2 (fun (x2 : Int32) (M3 : Mm) =>
(if (w1 * w3) ≤ (x2 + w1) then
some (Sum.inr M3)
else
gd (inb (x2 + w1) n) <|
gd (inb x2 n) <|
bd (stI M3 a (ix x2) (M3.1 a (ix (x2 + w1)))) fun M7 =>
bd (x2 + 1) fun x8 =>
some (Sum.inl (x8, M7))))
def fX10_closeGap (a n : Nat) (M : Mm) (w1 : Int32) (w2 : Int32) (w3 : Int32) : Option (Mm) :=
bd (w1 * w2) fun x1 =>
b1 (itr (fX10_closeGap_L5 w1 w3 n a) 1000 (x1, M)) fun M10 =>
some M10
def fX7_remove (M : Mm) (w1 : Int32) : Option (Mm) :=
(if w1 < 0 then
some M
else
(if w1 < (M.1 2 0) then
b1 (fX10_closeGap 3 10 M 1 w1 (M.1 2 0)) fun M4 =>
b1 (fX10_closeGap 4 30 M4 3 w1 (M4.1 2 0)) fun M6 =>
bd (stI M6 2 0 ((M6.1 2 0) - 1)) fun M7 =>
some M7
else
some M))
def fX10_dropTerm (M : Mm) (w1 : Int32) : Option (Int32 × Mm) :=
(if 0 ≤ w1 then
(if w1 < (M.1 2 0) then
gd (inb w1 10) <|
bd (M.1 3 (ix w1)) fun x4 =>
b1 (fX2_push M) fun M6 =>
b1 (fX7_remove M6 w1) fun M8 =>
some (x4, M8)
else
some ((-1000002), M))
else
some ((-1000001), M))
def fX11_dropTerm_L53 : (Int32 × Mm) → Option ((Int32 × Mm) ⊕ (Mm)) :=
u2 (fun (x9 : Int32) (M10 : Mm) =>
(if (21 + (4 * (M10.1 96 1))) ≤ x9 then
some (Sum.inr M10)
else
gd (inb (x9 + 4) 111) <|
gd (inb x9 111) <|
bd (stI M10 96 (ix x9) (M10.1 96 (ix (x9 + 4)))) fun M14 =>
bd (x9 + 1) fun x15 =>
some (Sum.inl (x15, M14))))
def fX11_dropTerm (M : Mm) (w1 : Int32) : Option (Int32 × Mm) :=
(if 0 ≤ w1 then
(if w1 < (M.1 96 1) then
b1 (fX11_record M) fun M4 =>
gd (inb (21 + (4 * w1)) 111) <|
bd (M4.1 96 (ix (21 + (4 * w1)))) fun x6 =>
bd (stI M4 96 1 ((M4.1 96 1) - 1)) fun M7 =>
bd (21 + (4 * w1)) fun x8 =>
b1 (itr (fX11_dropTerm_L53) 1000 (x8, M7)) fun M17 =>
some (x6, M17)
else
some ((-1000002), M))
else
some ((-1000001), M))
def fX6_hasVariable (M : Mm) (w1 : Int32) : Option (Int32) :=
b1 (fX10_within w1 0 ((M.1 1 0) - 1)) fun x2 =>
gd (x2 = 0 ∨ x2 = 1) <|
some x2
def fX0_allow (M : Mm) (w1 : Int32) (w2 : Int32) (w3 : Int32) : Option (Int32) :=
b1 (fX10_within w1 (M.1 6 0) (M.1 7 0)) fun x2 =>
(if x2 = 0 then
some 0
else
b1 (fX10_within w2 (M.1 6 1) (M.1 7 1)) fun x5 =>
(if x5 = 0 then
some 0
else
b1 (fX10_within w3 (M.1 6 2) (M.1 7 2)) fun x8 =>
(if x8 = 0 then
some 0
else
some 1)))
def fX6_placeIsAllowed (M : Mm) : Option (Int32) :=
b1 (fX0_allow M (M.1 12 0) (M.1 12 1) (M.1 12 2)) fun x2 =>
gd (x2 = 0 ∨ x2 = 1) <|
some x2
def fX10_oneIf (w0 : Int32) : Option (Int32) :=
(if w0 = 0 then
some 0
else
some 1)
def fX10_bound (M : Mm) (w1 : Int32) (w2 : Int32) (w3 : Int32) : Option (Int32 × Mm) :=
b1 (fX6_hasVariable M w1) fun x2 =>
(if x2 = 0 then
some ((-1000001), M)
else
b1 (fX10_within w2 (-50) 50) fun x5 =>
(if x5 = 0 then
some ((-1000001), M)
else
b1 (fX10_within w3 w2 50) fun x8 =>
(if x8 = 0 then
some ((-1000001), M)
else
b1 (fX2_push M) fun M11 =>
gd (inb w1 3) <|
bd (stI M11 6 (ix w1) w2) fun M13 =>
bd (stI M13 7 (ix w1) w3) fun M14 =>
b1 (fX6_placeIsAllowed M14) fun x16 =>
b1 (fX10_oneIf x16) fun x18 =>
some (x18, M14))))
def fX11_isVariable (M : Mm) (w1 : Int32) : Option (Int32) :=
b1 (fX11_in w1 0 ((M.1 96 0) - 1)) fun x2 =>
gd (x2 = 0 ∨ x2 = 1) <|
some x2
def fX11_isAllowed (M : Mm) (w1 : Int32) (w2 : Int32) (w3 : Int32) : Option (Int32) :=
b1 (fX11_in w1 (M.1 96 12) (M.1 96 15)) fun x2 =>
(if x2 = 0 then
some 0
else
b1 (fX11_in w2 (M.1 96 13) (M.1 96 16)) fun x5 =>
(if x5 = 0 then
some 0
else
b1 (fX11_in w3 (M.1 96 14) (M.1 96 17)) fun x8 =>
(if x8 = 0 then
some 0
else
some 1)))
def fX11_isHereAllowed (M : Mm) : Option (Int32) :=
b1 (fX11_isAllowed M (M.1 96 18) (M.1 96 19) (M.1 96 20)) fun x2 =>
gd (x2 = 0 ∨ x2 = 1) <|
some x2
def fX11_bound (M : Mm) (w1 : Int32) (w2 : Int32) (w3 : Int32) : Option (Int32 × Mm) :=
b1 (fX11_isVariable M w1) fun x2 =>
(if x2 = 0 then
some ((-1000001), M)
else
b1 (fX11_in w2 (-50) 50) fun x5 =>
(if x5 = 0 then
some ((-1000001), M)
else
b1 (fX11_in w3 w2 50) fun x8 =>
(if x8 = 0 then
some ((-1000001), M)
else
b1 (fX11_record M) fun M11 =>
gd (inb (12 + w1) 111) <|
bd (stI M11 96 (ix (12 + w1)) w2) fun M13 =>
gd (inb (15 + w1) 111) <|
bd (stI M13 96 (ix (15 + w1)) w3) fun M15 =>
b1 (fX11_isHereAllowed M15) fun x17 =>
(if x17 = 0 then
some (0, M15)
else
some (1, M15)))))
def fX1_has_L3 (M : Mm) (w1 : Int32) (w2 : Int32) (w3 : Int32) : (Int32) → Option ((Int32) ⊕ ((Unit) ⊕ (Unit))) :=
fun (x1 : Int32) =>
(if (M.1 8 0) ≤ x1 then
some (Sum.inr (Sum.inr ()))
else
bd (3 * x1) fun x3 =>
gd (inb x3 24) <|
bd (fun (_ : Unit) =>
bd (x1 + 1) fun x7 =>
some (Sum.inl x7)) fun k5 =>
(if (M.1 9 (ix x3)) = w1 then
gd (inb (x3 + 1) 24) <|
(if (M.1 9 (ix (x3 + 1))) = w2 then
gd (inb (x3 + 2) 24) <|
(if (M.1 9 (ix (x3 + 2))) = w3 then
some (Sum.inr (Sum.inl ()))
else
k5 ())
else
k5 ())
else
k5 ()))
def fX1_has (M : Mm) (w1 : Int32) (w2 : Int32) (w3 : Int32) : Option (Int32) :=
bs (itr (fX1_has_L3 M w1 w2 w3) 1000 0) (fun (_ : Unit) =>
some 1) (fun (_ : Unit) =>
some 0)
def fX10_direction (M : Mm) (w1 : Int32) (w2 : Int32) (w3 : Int32) : Option (Int32 × Mm) :=
b1 (fX6_fit M w1 w2 w3 (-3) 3) fun x2 =>
(if x2 = 0 then
some ((-1000001), M)
else
bd (fun (_ : Unit) =>
b1 (fX1_has M w1 w2 w3) fun x7 =>
(if x7 = 0 then
(if (M.1 8 0) < 8 then
b1 (fX2_push M) fun M11 =>
b1 (fX1_add M11 w1 w2 w3) fun M13 =>
some ((M13.1 8 0) - 1, M13)
else
some ((-1000003), M))
else
some ((-1000002), M))) fun k4 =>
(if w1 = 0 then
(if w2 = 0 then
(if w3 = 0 then
some ((-1000001), M)
else
k4 ())
else
k4 ())
else
k4 ()))
def fX11_directionMany (M : Mm) : Option (Int32) :=
some (M.1 96 2)
def fX11_putDirection (M : Mm) (w1 : Int32) (w2 : Int32) (w3 : Int32) (w4 : Int32) : Option (Mm) :=
gd (inb (61 + (4 * w1)) 111) <|
bd (stI M 96 (ix (61 + (4 * w1))) w2) fun M2 =>
gd (inb ((61 + (4 * w1)) + 1) 111) <|
bd (stI M2 96 (ix ((61 + (4 * w1)) + 1)) w3) fun M4 =>
gd (inb ((61 + (4 * w1)) + 2) 111) <|
bd (stI M4 96 (ix ((61 + (4 * w1)) + 2)) w4) fun M6 =>
gd (inb ((61 + (4 * w1)) + 3) 111) <|
bd (stI M6 96 (ix ((61 + (4 * w1)) + 3)) 0) fun M8 =>
some M8
def fX11_step (M : Mm) (w1 : Int32) (w2 : Int32) : Option (Int32) :=
gd (inb ((61 + (4 * w1)) + w2) 111) <|
some (M.1 96 (ix ((61 + (4 * w1)) + w2)))
def fX11_direction_L70 (M : Mm) (w1 : Int32) (w2 : Int32) (w3 : Int32) : (Int32) → Option ((Int32) ⊕ ((Unit) ⊕ (Unit))) :=
fun (x9 : Int32) =>
b1 (fX11_directionMany M) fun x11 =>
(if x11 ≤ x9 then
some (Sum.inr (Sum.inr ()))
else
b1 (fX11_step M x9 0) fun x14 =>
bd (fun (_ : Unit) =>
bd (x9 + 1) fun x17 =>
some (Sum.inl x17)) fun k15 =>
(if x14 = w1 then
b1 (fX11_step M x9 1) fun x20 =>
(if x20 = w2 then
b1 (fX11_step M x9 2) fun x23 =>
(if x23 = w3 then
some (Sum.inr (Sum.inl ()))
else
k15 ())
else
k15 ())
else
k15 ()))
def fX11_direction (M : Mm) (w1 : Int32) (w2 : Int32) (w3 : Int32) : Option (Int32 × Mm) :=
b1 (fX11_in w1 (-3) 3) fun x2 =>
bd (fun (x5 : Int32) =>
(if x5 = 0 then
some ((-1000001), M)
else
bd (fun (_ : Unit) =>
bs (itr (fX11_direction_L70 M w1 w2 w3) 1000 0) (fun (_ : Unit) =>
some ((-1000002), M)) (fun (_ : Unit) =>
b1 (fX11_directionMany M) fun x27 =>
(if x27 = 8 then
some ((-1000003), M)
else
b1 (fX11_record M) fun M30 =>
b1 (fX11_directionMany M30) fun x32 =>
b1 (fX11_putDirection M30 x32 w1 w2 w3) fun M34 =>
b2 (fX11_oneMore M34 2) fun x36 M37 =>
some (x36 - 1, M37)))) fun k7 =>
(if w1 = 0 then
(if w2 = 0 then
(if w3 = 0 then
some ((-1000001), M)
else
k7 ())
else
k7 ())
else
k7 ()))) fun k3 =>
bd (fun (_ : Unit) =>
k3 0) fun k42 =>
(if x2 = 0 then
k42 ()
else
b1 (fX11_in w2 (-3) 3) fun x46 =>
(if x46 = 0 then
k42 ()
else
b1 (fX11_in w3 (-3) 3) fun x49 =>
(if x49 = 0 then
k42 ()
else
b1 (fX11_areOfVariables M w1 w2 w3) fun x52 =>
(if x52 = 0 then
k42 ()
else
k3 1))))
def fX1_remove (M : Mm) (w1 : Int32) : Option (Mm) :=
(if w1 < 0 then
some M
else
(if w1 < (M.1 8 0) then
b1 (fX10_closeGap 10 8 M 1 w1 (M.1 8 0)) fun M4 =>
b1 (fX10_closeGap 9 24 M4 3 w1 (M4.1 8 0)) fun M6 =>
bd (stI M6 8 0 ((M6.1 8 0) - 1)) fun M7 =>
some M7
else
some M))
def fX4_forgetDirection (M : Mm) (w1 : Int32) : Option (Mm) :=
(if (M.1 11 5) = w1 then
bd (stI M 11 5 (-1)) fun M4 =>
some M4
else
(if (M.1 11 5) ≤ w1 then
some M
else
bd (stI M 11 5 ((M.1 11 5) - 1)) fun M3 =>
some M3))
def fX10_dropDirection (M : Mm) (w1 : Int32) : Option (Int32 × Mm) :=
(if 0 ≤ w1 then
(if w1 < (M.1 8 0) then
b1 (fX2_push M) fun M4 =>
b1 (fX1_remove M4 w1) fun M6 =>
b1 (fX4_forgetDirection M6 w1) fun M8 =>
some (M8.1 8 0, M8)
else
some ((-1000002), M))
else
some ((-1000001), M))
def fX11_dropDirection_L41 : (Int32 × Mm) → Option ((Int32 × Mm) ⊕ (Mm)) :=
u2 (fun (x7 : Int32) (M8 : Mm) =>
(if (61 + (4 * (M8.1 96 2))) ≤ x7 then
some (Sum.inr M8)
else
gd (inb (x7 + 4) 111) <|
gd (inb x7 111) <|
bd (stI M8 96 (ix x7) (M8.1 96 (ix (x7 + 4)))) fun M12 =>
bd (x7 + 1) fun x13 =>
some (Sum.inl (x13, M12))))
def fX11_dropDirection (M : Mm) (w1 : Int32) : Option (Int32 × Mm) :=
(if 0 ≤ w1 then
(if w1 < (M.1 96 2) then
b1 (fX11_record M) fun M4 =>
bd (stI M4 96 2 ((M4.1 96 2) - 1)) fun M5 =>
bd (61 + (4 * w1)) fun x6 =>
b1 (itr (fX11_dropDirection_L41) 1000 (x6, M5)) fun M15 =>
(if (M15.1 96 9) = w1 then
bd (stI M15 96 9 (-1)) fun M20 =>
some (M20.1 96 2, M20)
else
(if (M15.1 96 9) ≤ w1 then
bd (stI M15 96 9 (M15.1 96 9)) fun M18 =>
some (M18.1 96 2, M18)
else
bd (stI M15 96 9 ((M15.1 96 9) - 1)) fun M19 =>
some (M19.1 96 2, M19)))
else
some ((-1000002), M))
else
some ((-1000001), M))
def fX1_forgetTaken_L2 : (Int32 × Mm) → Option ((Int32 × Mm) ⊕ (Mm)) :=
u2 (fun (x1 : Int32) (M2 : Mm) =>
(if 8 ≤ x1 then
some (Sum.inr M2)
else
gd (inb x1 8) <|
bd (stI M2 10 (ix x1) 0) fun M5 =>
bd (x1 + 1) fun x6 =>
some (Sum.inl (x6, M5))))
def fX1_forgetTaken (M : Mm) : Option (Mm) :=
b1 (itr (fX1_forgetTaken_L2) 1000 (0, M)) fun M8 =>
some M8
def fX10_start (M : Mm) (w1 : Int32) (w2 : Int32) (w3 : Int32) (w4 : Int32) : Option (Int32 × Mm) :=
b1 (fX6_fit M w1 w2 w3 (-50) 50) fun x2 =>
(if x2 = 0 then
some ((-1000001), M)
else
b1 (fX10_within w4 0 4) fun x5 =>
(if x5 = 0 then
some ((-1000001), M)
else
b1 (fX2_push M) fun M8 =>
b1 (fX4_begin M8 w1 w2 w3 (1 <<< (w4 &&& 31))) fun M10 =>
b1 (fX1_forgetTaken M10) fun M12 =>
b1 (fX6_placeIsAllowed M12) fun x14 =>
b1 (fX10_oneIf x14) fun x16 =>
some (x16, M12)))
def fX11_arePlace (M : Mm) (w1 : Int32) (w2 : Int32) (w3 : Int32) : Option (Int32) :=
b1 (fX11_in w1 (-50) 50) fun x2 =>
(if x2 = 0 then
some 0
else
b1 (fX11_in w2 (-50) 50) fun x5 =>
(if x5 = 0 then
some 0
else
b1 (fX11_in w3 (-50) 50) fun x8 =>
(if x8 = 0 then
some 0
else
b1 (fX11_areOfVariables M w1 w2 w3) fun x11 =>
(if x11 = 0 then
some 0
else
some 1))))
def fX11_clearSearch_L57 : (Int32 × Mm) → Option ((Int32 × Mm) ⊕ (Mm)) :=
u2 (fun (x8 : Int32) (M9 : Mm) =>
(if 8 ≤ x8 then
some (Sum.inr M9)
else
gd (inb ((61 + (4 * x8)) + 3) 111) <|
bd (stI M9 96 (ix ((61 + (4 * x8)) + 3)) 0) fun M12 =>
bd (x8 + 1) fun x13 =>
some (Sum.inl (x13, M12))))
def fX11_clearSearch (M : Mm) (w1 : Int32) : Option (Mm) :=
bd (stI M 96 3 w1) fun M1 =>
bd (stI M1 96 6 0) fun M2 =>
bd (stI M2 96 7 0) fun M3 =>
bd (stI M3 96 8 0) fun M4 =>
bd (stI M4 96 9 (-1)) fun M5 =>
bd (stI M5 96 10 0) fun M6 =>
bd (stI M6 96 11 0) fun M7 =>
b1 (itr (fX11_clearSearch_L57) 1000 (0, M7)) fun M15 =>
some M15
def fX11_putPlace (M : Mm) (w1 : Int32) (w2 : Int32) (w3 : Int32) : Option (Mm) :=
bd (stI M 96 18 w1) fun M1 =>
bd (stI M1 96 19 w2) fun M2 =>
bd (stI M2 96 20 w3) fun M3 =>
some M3
def fX11_start (M : Mm) (w1 : Int32) (w2 : Int32) (w3 : Int32) (w4 : Int32) : Option (Int32 × Mm) :=
b1 (fX11_arePlace M w1 w2 w3) fun x2 =>
(if x2 = 0 then
some ((-1000001), M)
else
b1 (fX11_in w4 0 4) fun x5 =>
(if x5 = 0 then
some ((-1000001), M)
else
b1 (fX11_record M) fun M8 =>
b1 (fX11_clearSearch M8 w4) fun M10 =>
b1 (fX11_putPlace M10 w1 w2 w3) fun M12 =>
b1 (fX11_isHereAllowed M12) fun x14 =>
(if x14 = 0 then
some (0, M12)
else
some (1, M12))))
def fX10_order (M : Mm) (w1 : Int32) (w2 : Int32) : Option (Int32 × Mm) :=
b1 (fX10_within w1 0 2) fun x2 =>
(if x2 = 0 then
some ((-1000001), M)
else
b1 (fX10_within w2 0 1) fun x5 =>
(if x5 = 0 then
some ((-1000001), M)
else
bd ((10 * (M.1 1 1)) + (M.1 1 2)) fun x7 =>
b1 (fX2_push M) fun M9 =>
bd (stI M9 1 1 w1) fun M10 =>
bd (stI M10 1 2 w2) fun M11 =>
some (x7, M11)))
def fX11_order (M : Mm) (w1 : Int32) (w2 : Int32) : Option (Int32 × Mm) :=
b1 (fX11_in w1 0 2) fun x2 =>
(if x2 = 0 then
some ((-1000001), M)
else
b1 (fX11_in w2 0 1) fun x5 =>
(if x5 = 0 then
some ((-1000001), M)
else
b1 (fX11_record M) fun M8 =>
bd ((10 * (M8.1 96 4)) + (M8.1 96 5)) fun x9 =>
bd (stI M8 96 4 w1) fun M10 =>
bd (stI M10 96 5 w2) fun M11 =>
some (x9, M11)))
def fX6_canPoll (M : Mm) : Option (Int32) :=
b1 (fX6_placeIsAllowed M) fun x2 =>
(if x2 = 0 then
some 0
else
(if (M.1 8 0) ≤ 0 then
some 0
else
some 1))
def fX7_raised_L5 (w1 : Int32) (w0 : Int32) : (Int64 × Int32) → Option ((Int64 × Int32) ⊕ (Int64)) :=
u2 (fun (y1 : Int64) (x2 : Int32) =>
(if w1 ≤ x2 then
some (Sum.inr y1)
else
bd (y1 * w0.toInt64) fun y4 =>
bd (x2 + 1) fun x5 =>
some (Sum.inl (y4, x5))))
def fX7_raised (w0 : Int32) (w1 : Int32) : Option (Int64) :=
b1 (itr (fX7_raised_L5 w1 w0) 1000 (1, 0)) fun y7 =>
some y7
def fX7_sumAt_L6 (M : Mm) (w4 : Int32) (w1 : Int32) (w2 : Int32) (w3 : Int32) : (Int64 × Int32) → Option ((Int64 × Int32) ⊕ (Int64)) :=
u2 (fun (y1 : Int64) (x2 : Int32) =>
(if (M.1 2 0) ≤ x2 then
some (Sum.inr y1)
else
bd (3 * x2) fun x4 =>
gd (inb x4 30) <|
gd (inb (x4 + 1) 30) <|
gd (inb (x4 + 2) 30) <|
bd (((M.1 4 (ix x4)) + (M.1 4 (ix (x4 + 1)))) + (M.1 4 (ix (x4 + 2)))) fun x8 =>
bd (fun (y11 : Int64) =>
bd (x2 + 1) fun x12 =>
some (Sum.inl (y11, x12))) fun k9 =>
(if w4 < x8 then
k9 y1
else
gd (inb x2 10) <|
b1 (fX7_raised w1 (M.1 4 (ix x4))) fun y16 =>
b1 (fX7_raised w2 (M.1 4 (ix (x4 + 1)))) fun y18 =>
b1 (fX7_raised w3 (M.1 4 (ix (x4 + 2)))) fun y20 =>
bd (y1 + (((((M.1 3 (ix x2)).toInt64) * y16) * y18) * y20)) fun y21 =>
k9 y21)))
def fX7_sumAt (M : Mm) (w1 : Int32) (w2 : Int32) (w3 : Int32) (w4 : Int32) : Option (Int64) :=
b1 (itr (fX7_sumAt_L6 M w4 w1 w2 w3) 1000 (0, 0)) fun y23 =>
some y23
def fX6_valueHere (M : Mm) : Option (Int64) :=
b1 (fX7_sumAt M (M.1 12 0) (M.1 12 1) (M.1 12 2) 4) fun y2 =>
some y2
def fX6_trialNumber (M : Mm) (w1 : Int32) (w2 : Int32) (w3 : Int32) : Option (Int32) :=
gd (inb w2 3) <|
gd (inb ((3 * w1) + w2) 24) <|
some ((M.1 12 (ix w2)) + (w3 * (M.1 9 (ix ((3 * w1) + w2)))))
def fX6_rankOf (M : Mm) (w1 : Int32) (w2 : Int32) (w3 : Int32) (w4 : Int32) : Option (Int64) :=
(if (M.1 1 1) = 1 then
(if w1 = (M.1 11 5) then
some 0
else
some 1)
else
(if (M.1 1 1) = 2 then
b1 (fX7_sumAt M w2 w3 w4 2) fun y5 =>
some y5
else
some 0))
def fX9_insert_L16 (w2 : Int64) : (Int32 × Mm) → Option ((Int32 × Mm) ⊕ (Int32 × Mm)) :=
u2 (fun (x3 : Int32) (M4 : Mm) =>
(if x3 ≤ 0 then
some (Sum.inr (x3, M4))
else
gd (inb (x3 - 1) 8) <|
(if (lg_cmp (M4.2 88 (ix (x3 - 1))) w2) ≤ 0 then
some (Sum.inr (x3, M4))
else
gd (inb x3 8) <|
bd (stI M4 87 (ix x3) (M4.1 87 (ix (x3 - 1)))) fun M9 =>
bd (stL M9 88 (ix x3) (M9.2 88 (ix (x3 - 1)))) fun M10 =>
bd (stL M10 89 (ix x3) (M10.2 89 (ix (x3 - 1)))) fun M11 =>
bd (x3 + (-1)) fun x12 =>
some (Sum.inl (x12, M11)))))
def fX9_insert (M : Mm) (w1 : Int32) (w2 : Int64) (w3 : Int64) : Option (Mm) :=
(if (M.1 86 0) < 8 then
bd (M.1 86 0) fun x2 =>
b2 (itr (fX9_insert_L16 w2) 1000 (x2, M)) fun x14 M15 =>
gd (inb x14 8) <|
bd (stI M15 87 (ix x14) w1) fun M17 =>
bd (stL M17 88 (ix x14) w2) fun M18 =>
bd (stL M18 89 (ix x14) w3) fun M19 =>
bd (stI M19 86 0 ((M19.1 86 0) + 1)) fun M20 =>
some M20
else
some M)
def fX9_gather_L15 (w2 : Int32) : (Int32 × Mm) → Option ((Int32 × Mm) ⊕ (Mm)) :=
u2 (fun (x5 : Int32) (M6 : Mm) =>
(if (M6.1 8 0) ≤ x5 then
some (Sum.inr M6)
else
b1 (fX6_trialNumber M6 x5 0 w2) fun x9 =>
b1 (fX6_trialNumber M6 x5 1 w2) fun x11 =>
b1 (fX6_trialNumber M6 x5 2 w2) fun x13 =>
b1 (fX0_allow M6 x9 x11 x13) fun x15 =>
bd (fun (M18 : Mm) =>
bd (x5 + 1) fun x19 =>
some (Sum.inl (x19, M18))) fun k16 =>
(if x15 = 0 then
k16 M6
else
b1 (fX6_rankOf M6 x5 x9 x11 x13) fun y22 =>
b1 (fX7_sumAt M6 x9 x11 x13 4) fun y24 =>
b1 (fX9_insert M6 x5 y22 y24) fun M26 =>
k16 M26)))
def fX9_gather (M : Mm) (w2 : Int32) : Option (Mm) :=
bd (stI M 86 0 0) fun M1 =>
b1 (fX6_valueHere M1) fun y3 =>
bd (stL M1 86 4 y3) fun M4 =>
b1 (itr (fX9_gather_L15 w2) 1000 (0, M4)) fun M28 =>
some M28
def fX9_chooseBetter_L15 (w1 : Int32) : (Int32 × Int64 × Int32 × Mm) → Option ((Int32 × Int64 × Int32 × Mm) ⊕ ((Int32 × Mm) ⊕ (Int32 × Mm))) :=
u4 (fun (x3 : Int32) (y4 : Int64) (x5 : Int32) (M6 : Mm) =>
(if (M6.1 86 0) ≤ x5 then
some (Sum.inr (Sum.inr (x3, M6)))
else
bd (stI M6 86 5 ((M6.1 86 5) + 1)) fun M8 =>
gd (inb x5 8) <|
bd (fun (x12 : Int32) (y13 : Int64) =>
bd (x5 + 1) fun x14 =>
some (Sum.inl (x12, y13, x14, M8))) fun k10 =>
(if 0 ≤ (lg_cmp (M8.2 89 (ix x5)) y4) then
k10 x3 y4
else
bd (M8.1 87 (ix x5)) fun x16 =>
bd (M8.2 89 (ix x5)) fun y17 =>
(if w1 = 0 then
some (Sum.inr (Sum.inl (x16, M8)))
else
k10 x16 y17))))
def fX9_chooseBetter (M : Mm) (w1 : Int32) : Option (Int32 × Mm) :=
bd (M.2 86 4) fun y1 =>
bd (stI M 86 5 0) fun M2 =>
bs (itr (fX9_chooseBetter_L15 w1) 1000 ((-1), y1, 0, M2)) (u2 (fun (x20 : Int32) (M21 : Mm) =>
some (x20, M21))) (u2 (fun (x22 : Int32) (M23 : Mm) =>
some (x22, M23)))
def fX4_succeed (M : Mm) (w1 : Int32) (w2 : Int32) (w3 : Int32) (w4 : Int32) : Option (Mm) :=
bd (cpI M 13 0 13 3 15) fun M1 =>
bd (cpI M1 12 0 13 0 3) fun M2 =>
bd (stI M2 11 6 (if 6 < ((M2.1 11 6) + 1) then 6 else ((M2.1 11 6) + 1))) fun M3 =>
b1 (fX4_moveTo M3 w2 w3 w4) fun M5 =>
bd (stI M5 11 1 (if 16 < (2 * (M5.1 11 1)) then 16 else (2 * (M5.1 11 1)))) fun M6 =>
bd (stI M6 11 3 ((M6.1 11 3) + 1)) fun M7 =>
bd (stI M7 11 5 w1) fun M8 =>
bd (stI M8 11 8 0) fun M9 =>
some M9
def fX4_fail (M : Mm) : Option (Mm) :=
bd (fun (x3 : Int32) =>
gd (x3 = 0 ∨ x3 = 1) <|
bd (stI M 11 8 x3) fun M5 =>
bd (stI M5 11 1 (if ((M5.1 11 1) / 2) < 1 then 1 else ((M5.1 11 1) / 2))) fun M6 =>
some M6) fun k1 =>
(if (M.1 11 1) = 1 then
k1 1
else
k1 0)
def fX6_pollOnce (M : Mm) : Option (Int32 × Mm) :=
b1 (fX9_gather M (M.1 11 1)) fun M2 =>
b2 (fX9_chooseBetter M2 (M2.1 1 2)) fun x4 M5 =>
bd (stI M5 11 2 ((M5.1 11 2) + 1)) fun M6 =>
bd (stI M6 11 4 ((M6.1 11 4) + (M6.1 86 5))) fun M7 =>
(if x4 = (-1) then
b1 (fX4_fail M7) fun M21 =>
some ((-1), M21)
else
bd (M7.1 11 1) fun x9 =>
gd (inb x4 8) <|
bd (stI M7 10 (ix x4) ((M7.1 10 (ix x4)) + 1)) fun M11 =>
b1 (fX6_trialNumber M11 x4 0 x9) fun x13 =>
b1 (fX6_trialNumber M11 x4 1 x9) fun x15 =>
b1 (fX6_trialNumber M11 x4 2 x9) fun x17 =>
b1 (fX4_succeed M11 x4 x13 x15 x17) fun M19 =>
some (x4, M19))
def fX10_poll (M : Mm) : Option (Int32 × Mm) :=
b1 (fX6_canPoll M) fun x2 =>
(if x2 = 0 then
some ((-1000002), M)
else
b1 (fX2_push M) fun M5 =>
b2 (fX6_pollOnce M5) fun x7 M8 =>
some (x7, M8))
def fX11_canPoll (M : Mm) : Option (Int32) :=
b1 (fX11_isHereAllowed M) fun x2 =>
(if x2 = 0 then
some 0
else
(if (M.1 96 2) ≤ 0 then
some 0
else
some 1))
def fX11_trialAt (M : Mm) (w1 : Int32) (w2 : Int32) (w3 : Int32) : Option (Int32) :=
gd (inb (18 + w2) 111) <|
b1 (fX11_step M w1 w2) fun x3 =>
some ((M.1 96 (ix (18 + w2))) + (w3 * x3))
def fX11_power_L5 (w1 : Int32) (w0 : Int32) : (Int64 × Int32) → Option ((Int64 × Int32) ⊕ (Int64)) :=
u2 (fun (y1 : Int64) (x2 : Int32) =>
(if w1 ≤ x2 then
some (Sum.inr y1)
else
bd (y1 * w0.toInt64) fun y4 =>
bd (x2 + 1) fun x5 =>
some (Sum.inl (y4, x5))))
def fX11_power (w0 : Int32) (w1 : Int32) : Option (Int64) :=
b1 (itr (fX11_power_L5 w1 w0) 1000 (1, 0)) fun y7 =>
some y7
def fX11_valueAt_L6 (M : Mm) (w1 : Int32) (w2 : Int32) (w3 : Int32) (w4 : Int32) : (Int64 × Int32) → Option ((Int64 × Int32) ⊕ (Int64)) :=
u2 (fun (y1 : Int64) (x2 : Int32) =>
(if (M.1 96 1) ≤ x2 then
some (Sum.inr y1)
else
bd (21 + (4 * x2)) fun x4 =>
bd (fun (x7 : Int32) =>
bd (fun (y10 : Int64) =>
bd (y1 + y10) fun y11 =>
bd (x2 + 1) fun x12 =>
some (Sum.inl (y11, x12))) fun k8 =>
(if x7 = 0 then
k8 0
else
gd (inb x4 111) <|
gd (inb (x4 + 1) 111) <|
b1 (fX11_power w1 (M.1 96 (ix (x4 + 1)))) fun y17 =>
gd (inb (x4 + 2) 111) <|
b1 (fX11_power w2 (M.1 96 (ix (x4 + 2)))) fun y20 =>
gd (inb (x4 + 3) 111) <|
b1 (fX11_power w3 (M.1 96 (ix (x4 + 3)))) fun y23 =>
k8 (((((M.1 96 (ix x4)).toInt64) * y17) * y20) * y23))) fun k5 =>
bd (fun (_ : Unit) =>
k5 1) fun k24 =>
(if w4 = 0 then
k24 ()
else
gd (inb (x4 + 1) 111) <|
gd (inb (x4 + 2) 111) <|
gd (inb (x4 + 3) 111) <|
(if 2 < (((M.1 96 (ix (x4 + 1))) + (M.1 96 (ix (x4 + 2)))) + (M.1 96 (ix (x4 + 3)))) then
k5 0
else
k24 ()))))
def fX11_valueAt (M : Mm) (w1 : Int32) (w2 : Int32) (w3 : Int32) (w4 : Int32) : Option (Int64) :=
b1 (itr (fX11_valueAt_L6 M w1 w2 w3 w4) 1000 (0, 0)) fun y32 =>
some y32
def fX11_trialValue (M : Mm) (w1 : Int32) (w2 : Int32) (w3 : Int32) : Option (Int64) :=
b1 (fX11_trialAt M w1 0 w2) fun x2 =>
b1 (fX11_trialAt M w1 1 w2) fun x4 =>
b1 (fX11_trialAt M w1 2 w2) fun x6 =>
b1 (fX11_valueAt M x2 x4 x6 w3) fun y8 =>
some y8
def fX11_isAhead (M : Mm) (w1 : Int32) (w2 : Int32) (w3 : Int32) : Option (Int32) :=
(if (M.1 96 4) = 2 then
b1 (fX11_trialValue M w1 w3 1) fun y5 =>
b1 (fX11_trialValue M w2 w3 1) fun y7 =>
(if 0 ≤ (lg_cmp y5 y7) then
some 0
else
some 1)
else
(if (M.1 96 4) = 1 then
(if w1 = (M.1 96 9) then
some 1
else
some 0)
else
some 0))
def fX11_isTrialAllowed (M : Mm) (w1 : Int32) (w2 : Int32) : Option (Int32) :=
b1 (fX11_trialAt M w1 0 w2) fun x2 =>
b1 (fX11_trialAt M w1 1 w2) fun x4 =>
b1 (fX11_trialAt M w1 2 w2) fun x6 =>
b1 (fX11_isAllowed M x2 x4 x6) fun x8 =>
gd (x8 = 0 ∨ x8 = 1) <|
some x8
def fX11_layRow_L34 (M5 : Mm) (x1 : Int32) (x3 : Int32) : (Int32 × Int32) → Option ((Int32 × Int32) ⊕ (Int32)) :=
u2 (fun (x7 : Int32) (x8 : Int32) =>
(if (M5.1 96 2) ≤ x8 then
some (Sum.inr x7)
else
bd (fun (x12 : Int32) =>
bd (fun (x15 : Int32) =>
bd (x8 + 1) fun x16 =>
some (Sum.inl (x15, x16))) fun k13 =>
bd (fun (_ : Unit) =>
k13 x7) fun k17 =>
(if x12 = 0 then
k17 ()
else
bd (fun (_ : Unit) =>
k13 x8) fun k20 =>
(if x7 < 0 then
k20 ()
else
b1 (fX11_isAhead M5 x8 x7 x1) fun x24 =>
(if x24 = 0 then
k17 ()
else
k20 ())))) fun k10 =>
bd (fun (_ : Unit) =>
k10 0) fun k26 =>
(if ((x3 >>> (x8 &&& 31)) &&& 1) = 0 then
b1 (fX11_isTrialAllowed M5 x8 x1) fun x30 =>
(if x30 = 0 then
k26 ()
else
k10 1)
else
k26 ())))
def fX11_layRow_L18 (x1 : Int32) : (Int32 × Int32 × Mm) → Option ((Int32 × Int32 × Mm) ⊕ (Mm)) :=
u3 (fun (x3 : Int32) (x4 : Int32) (M5 : Mm) =>
(if (M5.1 96 2) ≤ x4 then
some (Sum.inr M5)
else
b1 (itr (fX11_layRow_L34 M5 x1 x3) 1000 ((-1), 0)) fun x33 =>
bd (fun (x36 : Int32) (M37 : Mm) =>
bd (x4 + 1) fun x38 =>
some (Sum.inl (x36, x38, M37))) fun k34 =>
(if x33 < 0 then
k34 x3 M5
else
bd (x3 ||| (1 <<< (x33 &&& 31))) fun x40 =>
gd (inb (M5.1 95 8) 8) <|
bd (stI M5 100 (ix (M5.1 95 8)) x33) fun M42 =>
bd (stI M42 95 8 ((M42.1 95 8) + 1)) fun M43 =>
k34 x40 M43)))
def fX11_layRow (M : Mm) : Option (Mm) :=
bd (1 <<< ((M.1 96 3) &&& 31)) fun x1 =>
bd (stI M 95 8 0) fun M2 =>
b1 (itr (fX11_layRow_L18 x1) 1000 (0, 0, M2)) fun M46 =>
some M46
def fX11_valueHere (M : Mm) : Option (Int64) :=
b1 (fX11_valueAt M (M.1 96 18) (M.1 96 19) (M.1 96 20) 0) fun y2 =>
some y2
def fX11_leave_L3 : (Int32 × Mm) → Option ((Int32 × Mm) ⊕ (Mm)) :=
u2 (fun (x1 : Int32) (M2 : Mm) =>
(if x1 < 3 then
some (Sum.inr M2)
else
gd (inb ((93 + x1) - 3) 111) <|
gd (inb (93 + x1) 111) <|
bd (stI M2 96 (ix (93 + x1)) (M2.1 96 (ix ((93 + x1) - 3)))) fun M6 =>
bd (x1 + (-1)) fun x7 =>
some (Sum.inl (x7, M6))))
def fX11_leave_L36 : (Int32 × Mm) → Option ((Int32 × Mm) ⊕ (Mm)) :=
u2 (fun (x10 : Int32) (M11 : Mm) =>
(if 3 ≤ x10 then
some (Sum.inr M11)
else
gd (inb (18 + x10) 111) <|
gd (inb (93 + x10) 111) <|
bd (stI M11 96 (ix (93 + x10)) (M11.1 96 (ix (18 + x10)))) fun M15 =>
bd (x10 + 1) fun x16 =>
some (Sum.inl (x16, M15))))
def fX11_leave (M : Mm) : Option (Mm) :=
b1 (itr (fX11_leave_L3) 1000 (17, M)) fun M9 =>
b1 (itr (fX11_leave_L36) 1000 (0, M9)) fun M18 =>
(if 6 ≤ (M18.1 96 10) then
bd (stI M18 96 10 ((M18.1 96 10) + 0)) fun M20 =>
some M20
else
bd (stI M18 96 10 ((M18.1 96 10) + 1)) fun M21 =>
some M21)
def fX11_take (M : Mm) (w1 : Int32) (w2 : Int32) : Option (Mm) :=
b1 (fX11_leave M) fun M2 =>
b1 (fX11_trialAt M2 w1 0 w2) fun x4 =>
b1 (fX11_trialAt M2 w1 1 w2) fun x6 =>
b1 (fX11_trialAt M2 w1 2 w2) fun x8 =>
b1 (fX11_putPlace M2 x4 x6 x8) fun M10 =>
bd (fun (x13 : Int32) =>
bd (stI M10 96 3 ((M10.1 96 3) + x13)) fun M14 =>
bd (stI M14 96 7 ((M14.1 96 7) + 1)) fun M15 =>
bd (stI M15 96 9 w1) fun M16 =>
gd (inb ((61 + (4 * w1)) + 3) 111) <|
bd (stI M16 96 (ix ((61 + (4 * w1)) + 3)) ((M16.1 96 (ix ((61 + (4 * w1)) + 3))) + 1)) fun M18 =>
some M18) fun k11 =>
(if 4 ≤ (M10.1 96 3) then
k11 0
else
k11 1)
def fX11_pollOnce_L24 (x1 : Int32) : (Int64 × Int32 × Int32 × Mm) → Option ((Int64 × Int32 × Int32 × Mm) ⊕ (Int32 × Mm)) :=
u4 (fun (y6 : Int64) (x7 : Int32) (x8 : Int32) (M9 : Mm) =>
(if (M9.1 95 8) ≤ x8 then
some (Sum.inr (x7, M9))
else
bd (fun (_ : Unit) =>
gd (inb x8 8) <|
b1 (fX11_trialValue M9 (M9.1 100 (ix x8)) x1 0) fun y15 =>
bd (stI M9 96 8 ((M9.1 96 8) + 1)) fun M16 =>
bd (fun (y19 : Int64) (x20 : Int32) =>
bd (x8 + 1) fun x21 =>
some (Sum.inl (y19, x20, x21, M16))) fun k17 =>
(if 0 ≤ (lg_cmp y15 y6) then
k17 y6 x7
else
bd (M16.1 100 (ix x8)) fun x23 =>
k17 y15 x23)) fun k11 =>
(if x7 < 0 then
k11 ()
else
(if (M9.1 96 5) = 1 then
k11 ()
else
some (Sum.inr (x7, M9))))))
def fX11_pollOnce (M : Mm) : Option (Int32 × Mm) :=
bd (1 <<< ((M.1 96 3) &&& 31)) fun x1 =>
b1 (fX11_layRow M) fun M3 =>
b1 (fX11_valueHere M3) fun y5 =>
b2 (itr (fX11_pollOnce_L24 x1) 1000 (y5, (-1), 0, M3)) fun x27 M28 =>
bd (stI M28 96 6 ((M28.1 96 6) + 1)) fun M29 =>
bd (fun (x32 : Int32) =>
bd (stI M29 96 11 x32) fun M33 =>
(if x27 < 0 then
(if (M33.1 96 3) ≤ 0 then
bd (stI M33 96 3 ((M33.1 96 3) - 0)) fun M36 =>
some (x27, M36)
else
bd (stI M33 96 3 ((M33.1 96 3) - 1)) fun M37 =>
some (x27, M37))
else
b1 (fX11_take M33 x27 x1) fun M39 =>
some (x27, M39))) fun k30 =>
bd (fun (_ : Unit) =>
k30 0) fun k40 =>
(if 0 ≤ x27 then
k40 ()
else
(if x1 = 1 then
k30 1
else
k40 ()))
def fX11_poll (M : Mm) : Option (Int32 × Mm) :=
b1 (fX11_canPoll M) fun x2 =>
(if x2 = 0 then
some ((-1000002), M)
else
b1 (fX11_record M) fun M5 =>
b2 (fX11_pollOnce M5) fun x7 M8 =>
some (x7, M8))
def fX10_run_L39 (w1 : Int32) : (Int32 × Mm) → Option ((Int32 × Mm) ⊕ (Int32 × Mm)) :=
u2 (fun (x9 : Int32) (M10 : Mm) =>
b2 (fX6_pollOnce M10) fun x12 M13 =>
bd (x9 + 1) fun x14 =>
(if w1 ≤ x14 then
some (Sum.inr (x14, M13))
else
(if (M13.1 11 8) = 0 then
some (Sum.inl (x14, M13))
else
some (Sum.inr (x14, M13)))))
def fX10_run (M : Mm) (w1 : Int32) : Option (Int32 × Mm) :=
b1 (fX10_within w1 1 60) fun x2 =>
(if x2 = 0 then
some ((-1000001), M)
else
b1 (fX6_canPoll M) fun x5 =>
(if x5 = 0 then
some ((-1000002), M)
else
b1 (fX2_push M) fun M8 =>
b2 (itr (fX10_run_L39 w1) 1000 (0, M8)) fun x18 M19 =>
some (x18, M19)))
def fX11_run_L31 (w1 : Int32) : (Int32 × Int32 × Mm) → Option ((Int32 × Int32 × Mm) ⊕ (Int32 × Mm)) :=
u3 (fun (x9 : Int32) (x10 : Int32) (M11 : Mm) =>
(if x10 = 0 then
some (Sum.inr (x9, M11))
else
(if w1 ≤ x9 then
some (Sum.inr (x9, M11))
else
b2 (fX11_pollOnce M11) fun x15 M16 =>
bd (x9 + 1) fun x17 =>
bd (fun (x20 : Int32) =>
some (Sum.inl (x17, x20, M16))) fun k18 =>
(if (M16.1 96 11) = 0 then
k18 1
else
k18 0))))
def fX11_run (M : Mm) (w1 : Int32) : Option (Int32 × Mm) :=
b1 (fX11_in w1 1 60) fun x2 =>
(if x2 = 0 then
some ((-1000001), M)
else
b1 (fX11_canPoll M) fun x5 =>
(if x5 = 0 then
some ((-1000002), M)
else
b1 (fX11_record M) fun M8 =>
b2 (itr (fX11_run_L31 w1) 1000 (0, 1, M8)) fun x23 M24 =>
some (x23, M24)))
def fX10_value (M : Mm) (w1 : Int32) (w2 : Int32) (w3 : Int32) (w4 : Int32) : Option (Int64) :=
b1 (fX6_fit M w1 w2 w3 (-50) 50) fun x2 =>
(if x2 = 0 then
some (-1000001)
else
b1 (fX10_within w4 0 1) fun x5 =>
(if x5 = 0 then
some (-1000001)
else
bd (fun (x9 : Int32) =>
b1 (fX7_sumAt M w1 w2 w3 x9) fun y11 =>
some (20000000000 + y11)) fun k7 =>
(if w4 = 1 then
k7 2
else
k7 4)))
def fX11_value (M : Mm) (w1 : Int32) (w2 : Int32) (w3 : Int32) (w4 : Int32) : Option (Int64) :=
b1 (fX11_arePlace M w1 w2 w3) fun x2 =>
(if x2 = 0 then
some (-1000001)
else
b1 (fX11_in w4 0 1) fun x5 =>
(if x5 = 0 then
some (-1000001)
else
(if w4 = 1 then
b1 (fX11_valueAt M w1 w2 w3 1) fun y11 =>
some (y11 + 20000000000)
else
b1 (fX11_valueAt M w1 w2 w3 0) fun y9 =>
some (y9 + 20000000000))))
def fX10_termOf (M : Mm) (w1 : Int32) (w2 : Int32) : Option (Int32) :=
(if w1 < 0 then
some (-1000001)
else
b1 (fX10_within w2 0 3) fun x3 =>
(if x3 = 0 then
some (-1000001)
else
(if w1 < (M.1 2 0) then
(if w2 = 0 then
gd (inb w1 10) <|
some (M.1 3 (ix w1))
else
gd (inb (((3 * w1) + w2) - 1) 30) <|
some (M.1 4 (ix (((3 * w1) + w2) - 1))))
else
some (-1000004))))
def fX11_termOf (M : Mm) (w1 : Int32) (w2 : Int32) : Option (Int32) :=
(if w1 < 0 then
some (-1000001)
else
b1 (fX11_in w2 0 3) fun x3 =>
(if x3 = 0 then
some (-1000001)
else
(if (M.1 96 1) ≤ w1 then
some (-1000004)
else
gd (inb ((21 + (4 * w1)) + w2) 111) <|
some (M.1 96 (ix ((21 + (4 * w1)) + w2))))))
def fX10_directionOf (M : Mm) (w1 : Int32) (w2 : Int32) : Option (Int32) :=
(if w1 < 0 then
some (-1000001)
else
b1 (fX10_within w2 0 3) fun x3 =>
(if x3 = 0 then
some (-1000001)
else
(if w1 < (M.1 8 0) then
(if w2 = 3 then
gd (inb w1 8) <|
some (M.1 10 (ix w1))
else
gd (inb ((3 * w1) + w2) 24) <|
some (M.1 9 (ix ((3 * w1) + w2))))
else
some (-1000004))))
def fX11_directionOf (M : Mm) (w1 : Int32) (w2 : Int32) : Option (Int32) :=
(if w1 < 0 then
some (-1000001)
else
b1 (fX11_in w2 0 3) fun x3 =>
(if x3 = 0 then
some (-1000001)
else
(if (M.1 96 2) ≤ w1 then
some (-1000004)
else
gd (inb ((61 + (4 * w1)) + w2) 111) <|
some (M.1 96 (ix ((61 + (4 * w1)) + w2))))))
def fX10_searchOf (M : Mm) (w1 : Int32) : Option (Int32) :=
(if w1 = 0 then
gd (inb w1 3) <|
some (M.1 12 (ix w1))
else
(if w1 = 1 then
gd (inb w1 3) <|
some (M.1 12 (ix w1))
else
(if w1 = 2 then
gd (inb w1 3) <|
some (M.1 12 (ix w1))
else
(if w1 = 3 then
some (M.1 11 1)
else
(if w1 = 4 then
some (M.1 11 2)
else
(if w1 = 5 then
some (M.1 11 3)
else
(if w1 = 6 then
some (M.1 11 4)
else
(if w1 = 7 then
(if (M.1 11 5) = (-1) then
some (-1000004)
else
some (M.1 11 5))
else
(if w1 = 8 then
some (M.1 11 6)
else
(if w1 = 9 then
b1 (fX10_oneIf (M.1 11 8)) fun x16 =>
some x16
else
some (-1000001)))))))))))
def fX11_searchOf (M : Mm) (w1 : Int32) : Option (Int32) :=
b1 (fX11_in w1 0 9) fun x2 =>
(if x2 = 0 then
some (-1000001)
else
(if w1 = 3 then
some (1 <<< ((M.1 96 3) &&& 31))
else
(if w1 = 4 then
some (M.1 96 6)
else
(if w1 = 5 then
some (M.1 96 7)
else
(if w1 = 6 then
some (M.1 96 8)
else
(if w1 = 7 then
(if 0 ≤ (M.1 96 9) then
some (M.1 96 9)
else
some (-1000004))
else
(if w1 = 8 then
some (M.1 96 10)
else
(if w1 = 9 then
some (M.1 96 11)
else
gd (inb (18 + w1) 111) <|
some (M.1 96 (ix (18 + w1)))))))))))
def fX10_leftAt (M : Mm) (w1 : Int32) (w2 : Int32) : Option (Int32) :=
(if w1 < 0 then
some (-1000001)
else
b1 (fX6_hasVariable M w2) fun x3 =>
(if x3 = 0 then
some (-1000001)
else
(if w1 < (M.1 11 6) then
gd (inb ((3 * w1) + w2) 18) <|
some (M.1 13 (ix ((3 * w1) + w2)))
else
some (-1000004))))
def fX11_leftAt (M : Mm) (w1 : Int32) (w2 : Int32) : Option (Int32) :=
(if w1 < 0 then
some (-1000001)
else
b1 (fX11_isVariable M w2) fun x3 =>
(if x3 = 0 then
some (-1000001)
else
(if (M.1 96 10) ≤ w1 then
some (-1000004)
else
gd (inb ((93 + (3 * w1)) + w2) 111) <|
some (M.1 96 (ix ((93 + (3 * w1)) + w2))))))
def fX10_boundOf (M : Mm) (w1 : Int32) : Option (Int32) :=
b1 (fX10_within w1 10 (9 + (M.1 1 0))) fun x2 =>
(if x2 = 0 then
b1 (fX10_within w1 20 (19 + (M.1 1 0))) fun x5 =>
(if x5 = 0 then
some (-1000001)
else
gd (inb (w1 - 20) 3) <|
some (M.1 7 (ix (w1 - 20))))
else
gd (inb (w1 - 10) 3) <|
some (M.1 6 (ix (w1 - 10))))
def fX10_count (M : Mm) (w1 : Int32) : Option (Int32) :=
(if w1 = 0 then
some (M.1 1 0)
else
(if w1 = 1 then
some (M.1 2 0)
else
(if w1 = 2 then
some (M.1 8 0)
else
(if w1 = 3 then
some (M.1 1 1)
else
(if w1 = 4 then
some (M.1 1 2)
else
(if w1 = 5 then
some (M.1 14 0)
else
(if w1 = 6 then
some (M.1 80 0)
else
(if w1 = 7 then
b1 (fX10_oneIf (M.1 0 3)) fun x10 =>
some x10
else
b1 (fX10_boundOf M w1) fun x12 =>
some x12))))))))
def fX11_count (M : Mm) (w1 : Int32) : Option (Int32) :=
(if w1 < 10 then
(if w1 = 0 then
some (M.1 96 0)
else
(if w1 = 1 then
some (M.1 96 1)
else
(if w1 = 2 then
some (M.1 96 2)
else
(if w1 = 3 then
some (M.1 96 4)
else
(if w1 = 4 then
some (M.1 96 5)
else
(if w1 = 5 then
some (M.1 95 3)
else
(if w1 = 6 then
some (M.1 95 6)
else
(if w1 = 7 then
(if (M.1 95 4) = 0 then
some 0
else
some 1)
else
some (-1000001)))))))))
else
bd (fun (x13 : Int32) =>
bd (fun (x16 : Int32) =>
bd (w1 - x16) fun x17 =>
b1 (fX11_isVariable M x17) fun x19 =>
(if x19 = 0 then
some (-1000001)
else
(if x13 = 0 then
gd (inb (12 + x17) 111) <|
some (M.1 96 (ix (12 + x17)))
else
gd (inb (15 + x17) 111) <|
some (M.1 96 (ix (15 + x17)))))) fun k14 =>
(if x13 = 0 then
k14 10
else
k14 20)) fun k11 =>
(if w1 < 20 then
k11 0
else
k11 1))
def fX9_isBetter (M : Mm) (w1 : Int32) : Option (Int32) :=
gd (inb w1 8) <|
(if 0 ≤ (lg_cmp (M.2 89 (ix w1)) (M.2 86 4)) then
some 0
else
some 1)
def fX10_trialOf (M : Mm) (w1 : Int32) (w2 : Int32) : Option (Int32 × Mm) :=
(if w1 < 0 then
some ((-1000001), M)
else
b1 (fX10_within w2 0 1) fun x3 =>
(if x3 = 0 then
some ((-1000001), M)
else
b1 (fX9_gather M (M.1 11 1)) fun M6 =>
(if w1 < (M6.1 86 0) then
(if w2 = 0 then
gd (inb w1 8) <|
some (M6.1 87 (ix w1), M6)
else
b1 (fX9_isBetter M6 w1) fun x10 =>
b1 (fX10_oneIf x10) fun x12 =>
some (x12, M6))
else
some ((-1000004), M6))))
def fX11_trialOf (M : Mm) (w1 : Int32) (w2 : Int32) : Option (Int32 × Mm) :=
(if w1 < 0 then
some ((-1000001), M)
else
b1 (fX11_in w2 0 1) fun x3 =>
(if x3 = 0 then
some ((-1000001), M)
else
b1 (fX11_layRow M) fun M6 =>
(if w1 < (M6.1 95 8) then
gd (inb w1 8) <|
b1 (fX11_trialValue M6 (M6.1 100 (ix w1)) (1 <<< ((M6.1 96 3) &&& 31)) 0) fun y10 =>
b1 (fX11_valueHere M6) fun y12 =>
bd (fun (x15 : Int32) =>
(if w2 = 0 then
some (M6.1 100 (ix w1), M6)
else
(if x15 = 0 then
some (0, M6)
else
some (1, M6)))) fun k13 =>
(if 0 ≤ (lg_cmp y10 y12) then
k13 0
else
k13 1)
else
some ((-1000004), M6))))
def fX5_addAlong_L2 (w1 : Int32) (w2 : Int32) : (Int32 × Mm) → Option ((Int32 × Mm) ⊕ (Mm)) :=
u2 (fun (x1 : Int32) (M2 : Mm) =>
(if 3 ≤ x1 then
some (Sum.inr M2)
else
bd (fun (x6 : Int32) =>
gd (inb ((3 * (M2.1 92 0)) + x1) 42) <|
bd (stI M2 93 (ix ((3 * (M2.1 92 0)) + x1)) x6) fun M8 =>
bd (x1 + 1) fun x9 =>
some (Sum.inl (x9, M8))) fun k4 =>
(if x1 = w1 then
k4 w2
else
k4 0)))
def fX5_addAlong (M : Mm) (w1 : Int32) (w2 : Int32) : Option (Mm) :=
b1 (itr (fX5_addAlong_L2 w1 w2) 1000 (0, M)) fun M12 =>
bd (stI M12 92 0 ((M12.1 92 0) + 1)) fun M13 =>
some M13
def fX5_fill_L29 : (Int32 × Mm) → Option ((Int32 × Mm) ⊕ (Mm)) :=
u2 (fun (x4 : Int32) (M5 : Mm) =>
(if 3 ≤ x4 then
some (Sum.inr M5)
else
b1 (fX5_addAlong M5 x4 1) fun M8 =>
b1 (fX5_addAlong M8 x4 (-1)) fun M10 =>
bd (x4 + 1) fun x11 =>
some (Sum.inl (x11, M10))))
def fX5_fill (M : Mm) (w2 : Int32) : Option (Mm) :=
bd (stI M 92 0 (M.1 8 0)) fun M1 =>
gd (0 ≤ 3 * (M1.1 92 0) ∧ 0 + ix (3 * (M1.1 92 0)) ≤ 24 ∧ 0 + ix (3 * (M1.1 92 0)) ≤ 42) <|
bd (cpI M1 9 0 93 0 (ix (3 * (M1.1 92 0)))) fun M2 =>
b1 (itr (fX5_fill_L29) 1000 (w2, M2)) fun M13 =>
some M13
def fX5_findNormal (M : Mm) (w1 : Int32) (w2 : Int32) : Option (Int32 × Mm) :=
gd (inb (w1 + 1) 42) <|
gd (inb (w2 + 2) 42) <|
gd (inb (w1 + 2) 42) <|
gd (inb (w2 + 1) 42) <|
bd (stI M 94 0 (((M.1 93 (ix (w1 + 1))) * (M.1 93 (ix (w2 + 2)))) - ((M.1 93 (ix (w1 + 2))) * (M.1 93 (ix (w2 + 1)))))) fun M5 =>
gd (inb w2 42) <|
gd (inb w1 42) <|
bd (stI M5 94 1 (((M5.1 93 (ix (w1 + 2))) * (M5.1 93 (ix w2))) - ((M5.1 93 (ix w1)) * (M5.1 93 (ix (w2 + 2)))))) fun M8 =>
bd (stI M8 94 2 (((M8.1 93 (ix w1)) * (M8.1 93 (ix (w2 + 1)))) - ((M8.1 93 (ix (w1 + 1))) * (M8.1 93 (ix w2))))) fun M9 =>
(if (M9.1 94 0) = 0 then
(if (M9.1 94 1) = 0 then
(if (M9.1 94 2) = 0 then
some (0, M9)
else
some (1, M9))
else
some (1, M9))
else
some (1, M9))
def fX5_hasRowsOnBothSides_L6 (M : Mm) : (Int32 × Int32 × Int32) → Option ((Int32 × Int32 × Int32) ⊕ (Int32 × Int32)) :=
u3 (fun (x1 : Int32) (x2 : Int32) (x3 : Int32) =>
(if (M.1 92 0) ≤ x3 then
some (Sum.inr (x1, x2))
else
bd (3 * x3) fun x5 =>
gd (inb x5 42) <|
gd (inb (x5 + 1) 42) <|
gd (inb (x5 + 2) 42) <|
bd ((((M.1 94 0) * (M.1 93 (ix x5))) + ((M.1 94 1) * (M.1 93 (ix (x5 + 1))))) + ((M.1 94 2) * (M.1 93 (ix (x5 + 2))))) fun x9 =>
bd (fun (x12 : Int32) =>
bd (fun (x15 : Int32) =>
bd (x3 + 1) fun x16 =>
some (Sum.inl (x12, x15, x16))) fun k13 =>
bd (fun (_ : Unit) =>
k13 1) fun k17 =>
(if x2 = 0 then
(if 0 ≤ x9 then
k13 0
else
k17 ())
else
k17 ())) fun k10 =>
bd (fun (_ : Unit) =>
k10 1) fun k21 =>
(if x1 = 0 then
(if x9 ≤ 0 then
k10 0
else
k21 ())
else
k21 ())))
def fX5_hasRowsOnBothSides (M : Mm) : Option (Int32) :=
b2 (itr (fX5_hasRowsOnBothSides_L6 M) 1000 (0, 0, 0)) fun x26 x27 =>
(if x26 = 0 then
some 0
else
(if x27 = 0 then
some 0
else
some 1))
def fX5_isWhole_L26 (x4 : Int32) : (Int32 × Int32 × Mm) → Option ((Int32 × Int32 × Mm) ⊕ ((Mm) ⊕ (Int32 × Mm))) :=
u3 (fun (x8 : Int32) (x9 : Int32) (M10 : Mm) =>
(if (M10.1 92 0) ≤ x9 then
some (Sum.inr (Sum.inr (x8, M10)))
else
b2 (fX5_findNormal M10 (3 * x4) (3 * x9)) fun x13 M14 =>
bd (fun (x17 : Int32) =>
bd (x9 + 1) fun x18 =>
some (Sum.inl (x17, x18, M14))) fun k15 =>
(if x13 = 0 then
k15 x8
else
b1 (fX5_hasRowsOnBothSides M14) fun x21 =>
(if x21 = 0 then
some (Sum.inr (Sum.inl M14))
else
k15 1))))
def fX5_isWhole_L11 : (Int32 × Int32 × Mm) → Option ((Int32 × Int32 × Mm) ⊕ ((Mm) ⊕ (Int32 × Mm))) :=
u3 (fun (x3 : Int32) (x4 : Int32) (M5 : Mm) =>
(if (M5.1 92 0) ≤ x4 then
some (Sum.inr (Sum.inr (x3, M5)))
else
bd (x4 + 1) fun x7 =>
bs (itr (fX5_isWhole_L26 x4) 1000 (x3, x7, M5)) (fun (M24 : Mm) =>
some (Sum.inr (Sum.inl M24))) (u2 (fun (x25 : Int32) (M26 : Mm) =>
bd (x4 + 1) fun x27 =>
some (Sum.inl (x25, x27, M26))))))
def fX5_isWhole (M : Mm) (w2 : Int32) : Option (Int32 × Mm) :=
b1 (fX5_fill M w2) fun M2 =>
bs (itr (fX5_isWhole_L11) 1000 (0, 0, M2)) (fun (M30 : Mm) =>
some (0, M30)) (u2 (fun (x31 : Int32) (M32 : Mm) =>
gd (x31 = 0 ∨ x31 = 1) <|
some (x31, M32)))
def fX10_spans (M : Mm) : Option (Int32 × Mm) :=
b2 (fX5_isWhole M (M.1 1 0)) fun x2 M3 =>
b1 (fX10_oneIf x2) fun x5 =>
some (x5, M3)
def fX11_isBarred_L6 (M : Mm) (w1 : Int32) (w2 : Int32) (w3 : Int32) : (Int32 × Int32) → Option ((Int32 × Int32) ⊕ (Int32)) :=
u2 (fun (x1 : Int32) (x2 : Int32) =>
(if (M.1 96 2) ≤ x2 then
some (Sum.inr x1)
else
bd (fun (x6 : Int32) =>
bd (x2 + 1) fun x7 =>
some (Sum.inl (x6, x7))) fun k4 =>
bd (fun (_ : Unit) =>
k4 0) fun k8 =>
(if x1 = 0 then
k8 ()
else
b1 (fX11_step M x2 0) fun x12 =>
b1 (fX11_step M x2 1) fun x14 =>
b1 (fX11_step M x2 2) fun x16 =>
(if 0 < (((w1 * x12) + (w2 * x14)) + (w3 * x16)) then
k8 ()
else
k4 1))))
def fX11_isBarred (M : Mm) (w1 : Int32) (w2 : Int32) (w3 : Int32) : Option (Int32) :=
b1 (itr (fX11_isBarred_L6 M w1 w2 w3) 1000 (1, 0)) fun x19 =>
gd (x19 = 0 ∨ x19 = 1) <|
some x19
def fX11_isBarredBoth (M : Mm) (w1 : Int32) (w2 : Int32) (w3 : Int32) : Option (Int32) :=
b1 (fX11_isBarred M w1 w2 w3) fun x2 =>
(if x2 = 0 then
b1 (fX11_isBarred M (-w1) (-w2) (-w3)) fun x5 =>
(if x5 = 0 then
some 0
else
some 1)
else
some 1)
def fX11_spanThree_L19 (x3 : Int32) (M : Mm) : (Int32 × Int32 × Int32) → Option ((Int32 × Int32 × Int32) ⊕ (Int32 × Int32)) :=
u3 (fun (x5 : Int32) (x6 : Int32) (x7 : Int32) =>
(if x3 ≤ x7 then
some (Sum.inr (x5, x6))
else
b1 (fX11_step M x3 1) fun x10 =>
b1 (fX11_step M x7 2) fun x12 =>
b1 (fX11_step M x3 2) fun x14 =>
b1 (fX11_step M x7 1) fun x16 =>
bd ((x10 * x12) - (x14 * x16)) fun x17 =>
b1 (fX11_step M x3 2) fun x19 =>
b1 (fX11_step M x7 0) fun x21 =>
b1 (fX11_step M x3 0) fun x23 =>
b1 (fX11_step M x7 2) fun x25 =>
bd ((x19 * x21) - (x23 * x25)) fun x26 =>
b1 (fX11_step M x3 0) fun x28 =>
b1 (fX11_step M x7 1) fun x30 =>
b1 (fX11_step M x3 1) fun x32 =>
b1 (fX11_step M x7 0) fun x34 =>
bd ((x28 * x30) - (x32 * x34)) fun x35 =>
bd (fun (x38 : Int32) =>
bd (fun (x41 : Int32) =>
bd (fun (x44 : Int32) =>
bd (x7 + 1) fun x45 =>
some (Sum.inl (x41, x44, x45))) fun k42 =>
bd (fun (_ : Unit) =>
k42 1) fun k46 =>
(if x6 = 0 then
bd (fun (_ : Unit) =>
k42 0) fun k49 =>
(if x38 = 0 then
k49 ()
else
b1 (fX11_isBarredBoth M x17 x26 x35) fun x53 =>
(if x53 = 0 then
k49 ()
else
k46 ()))
else
k46 ())) fun k39 =>
bd (fun (_ : Unit) =>
k39 1) fun k55 =>
(if x5 = 0 then
(if x38 = 0 then
k39 0
else
k55 ())
else
k55 ())) fun k36 =>
bd (fun (_ : Unit) =>
k36 1) fun k59 =>
(if x17 = 0 then
(if x26 = 0 then
(if x35 = 0 then
k36 0
else
k59 ())
else
k59 ())
else
k59 ())))
def fX11_spanThree_L6 (M : Mm) : (Int32 × Int32 × Int32) → Option ((Int32 × Int32 × Int32) ⊕ (Int32 × Int32)) :=
u3 (fun (x1 : Int32) (x2 : Int32) (x3 : Int32) =>
(if (M.1 96 2) ≤ x3 then
some (Sum.inr (x1, x2))
else
b2 (itr (fX11_spanThree_L19 x3 M) 1000 (x1, x2, 0)) fun x65 x66 =>
bd (x3 + 1) fun x67 =>
some (Sum.inl (x65, x66, x67))))
def fX11_spanThree (M : Mm) : Option (Int32) :=
b2 (itr (fX11_spanThree_L6 M) 1000 (0, 0, 0)) fun x70 x71 =>
(if x70 = 0 then
some 0
else
(if x71 = 0 then
some 1
else
some 0))
def fX11_spanTwo_L17 (M : Mm) : (Int32 × Int32) → Option ((Int32 × Int32) ⊕ (Int32)) :=
u2 (fun (x4 : Int32) (x5 : Int32) =>
(if (M.1 96 2) ≤ x5 then
some (Sum.inr x4)
else
bd (fun (x9 : Int32) =>
bd (x5 + 1) fun x10 =>
some (Sum.inl (x9, x10))) fun k7 =>
bd (fun (_ : Unit) =>
k7 1) fun k11 =>
(if x4 = 0 then
b1 (fX11_step M x5 1) fun x15 =>
b1 (fX11_step M x5 0) fun x17 =>
b1 (fX11_isBarredBoth M (-x15) x17 0) fun x19 =>
(if x19 = 0 then
k7 0
else
k11 ())
else
k11 ())))
def fX11_spanTwo (M : Mm) : Option (Int32) :=
bd (fun (x3 : Int32) =>
b1 (itr (fX11_spanTwo_L17 M) 1000 (x3, 0)) fun x22 =>
(if x22 = 0 then
some 1
else
some 0)) fun k1 =>
(if (M.1 96 2) = 0 then
k1 1
else
k1 0)
def fX11_spans (M : Mm) : Option (Int32) :=
(if (M.1 96 0) = 1 then
b1 (fX11_isBarredBoth M 1 0 0) fun x10 =>
(if x10 = 0 then
(if 1 = 0 then
some 0
else
some 1)
else
(if 0 = 0 then
some 0
else
some 1))
else
(if (M.1 96 0) = 2 then
b1 (fX11_spanTwo M) fun x7 =>
(if x7 = 0 then
some 0
else
some 1)
else
b1 (fX11_spanThree M) fun x4 =>
(if x4 = 0 then
some 0
else
some 1)))
def fX9_noneIsBetter_L2 (M : Mm) : (Int32) → Option ((Int32) ⊕ ((Unit) ⊕ (Unit))) :=
fun (x1 : Int32) =>
(if (M.1 86 0) ≤ x1 then
some (Sum.inr (Sum.inr ()))
else
b1 (fX9_isBetter M x1) fun x4 =>
(if x4 = 0 then
bd (x1 + 1) fun x6 =>
some (Sum.inl x6)
else
some (Sum.inr (Sum.inl ()))))
def fX9_noneIsBetter (M : Mm) : Option (Int32) :=
bs (itr (fX9_noneIsBetter_L2 M) 1000 0) (fun (_ : Unit) =>
some 0) (fun (_ : Unit) =>
some 1)
def fX10_stuck (M : Mm) (w1 : Int32) : Option (Int32 × Mm) :=
b1 (fX10_within w1 0 4) fun x2 =>
(if x2 = 0 then
some ((-1000001), M)
else
b1 (fX6_placeIsAllowed M) fun x5 =>
(if x5 = 0 then
some ((-1000002), M)
else
b1 (fX9_gather M (1 <<< (w1 &&& 31))) fun M8 =>
b1 (fX9_noneIsBetter M8) fun x10 =>
b1 (fX10_oneIf x10) fun x12 =>
some (x12, M8)))
def fX11_stuck_L26 (M : Mm) (w1 : Int32) : (Int32 × Int32) → Option ((Int32 × Int32) ⊕ (Int32)) :=
u2 (fun (x7 : Int32) (x8 : Int32) =>
(if (M.1 96 2) ≤ x8 then
some (Sum.inr x7)
else
bd (fun (x12 : Int32) =>
bd (x8 + 1) fun x13 =>
some (Sum.inl (x12, x13))) fun k10 =>
bd (fun (_ : Unit) =>
k10 0) fun k14 =>
(if x7 = 0 then
k14 ()
else
b1 (fX11_isTrialAllowed M x8 (1 <<< (w1 &&& 31))) fun x18 =>
bd (fun (_ : Unit) =>
k10 1) fun k19 =>
(if x18 = 0 then
k19 ()
else
b1 (fX11_trialValue M x8 (1 <<< (w1 &&& 31)) 0) fun y23 =>
b1 (fX11_valueHere M) fun y25 =>
(if (lg_cmp y23 y25) < 0 then
k14 ()
else
k19 ())))))
def fX11_stuck (M : Mm) (w1 : Int32) : Option (Int32) :=
b1 (fX11_in w1 0 4) fun x2 =>
(if x2 = 0 then
some (-1000001)
else
b1 (fX11_isHereAllowed M) fun x5 =>
(if x5 = 0 then
some (-1000002)
else
b1 (itr (fX11_stuck_L26 M w1) 1000 (1, 0)) fun x28 =>
(if x28 = 0 then
some 0
else
some 1)))
def fX3_consider (M : Mm) (w2 : Int32) (w3 : Int32) (w4 : Int32) : Option (Mm) :=
bd ((M.1 12 0) + (w2 * (M.1 11 1))) fun x1 =>
bd ((M.1 12 1) + (w3 * (M.1 11 1))) fun x2 =>
bd ((M.1 12 2) + (w4 * (M.1 11 1))) fun x3 =>
b1 (fX0_allow M x1 x2 x3) fun x5 =>
(if x5 = 0 then
some M
else
b1 (fX7_sumAt M x1 x2 x3 4) fun y8 =>
(if 0 ≤ (lg_cmp y8 (M.2 90 1)) then
some M
else
bd (stL M 90 1 y8) fun M10 =>
bd (stI M10 91 0 x1) fun M11 =>
bd (stI M11 91 1 x2) fun M12 =>
bd (stI M12 91 2 x3) fun M13 =>
some M13))
def fX3_findBest_L61 (x6 : Int32) (x9 : Int32) (x13 : Int32) : (Int32 × Mm) → Option ((Int32 × Mm) ⊕ (Mm)) :=
u2 (fun (x17 : Int32) (M18 : Mm) =>
(if x6 < x17 then
some (Sum.inr M18)
else
b1 (fX3_consider M18 x9 x13 x17) fun M21 =>
bd (x17 + 1) fun x22 =>
some (Sum.inl (x22, M21))))
def fX3_findBest_L50 (x3 : Int32) (x6 : Int32) (x9 : Int32) : (Int32 × Mm) → Option ((Int32 × Mm) ⊕ (Mm)) :=
u2 (fun (x13 : Int32) (M14 : Mm) =>
(if x3 < x13 then
some (Sum.inr M14)
else
bd (-x6) fun x16 =>
b1 (itr (fX3_findBest_L61 x6 x9 x13) 1000 (x16, M14)) fun M24 =>
bd (x13 + 1) fun x25 =>
some (Sum.inl (x25, M24))))
def fX3_findBest_L40 (w2 : Int32) (x3 : Int32) (x6 : Int32) : (Int32 × Mm) → Option ((Int32 × Mm) ⊕ (Mm)) :=
u2 (fun (x9 : Int32) (M10 : Mm) =>
(if w2 < x9 then
some (Sum.inr M10)
else
bd (-x3) fun x12 =>
b1 (itr (fX3_findBest_L50 x3 x6 x9) 1000 (x12, M10)) fun M28 =>
bd (x9 + 1) fun x29 =>
some (Sum.inl (x29, M28))))
def fX3_findBest (M : Mm) (w2 : Int32) : Option (Mm) :=
bd (fun (x3 : Int32) =>
bd (fun (x6 : Int32) =>
bd (stL M 90 1 20000000000) fun M7 =>
bd (-w2) fun x8 =>
b1 (itr (fX3_findBest_L40 w2 x3 x6) 1000 (x8, M7)) fun M32 =>
some M32) fun k4 =>
(if (M.1 1 0) ≤ 2 then
k4 0
else
k4 w2)) fun k1 =>
(if (M.1 1 0) ≤ 1 then
k1 0
else
k1 w2)
def fX10_around (M : Mm) (w1 : Int32) (w2 : Int32) : Option (Int32 × Mm) :=
b1 (fX10_within w1 0 3) fun x2 =>
(if x2 = 0 then
some ((-1000001), M)
else
b1 (fX10_within w2 0 2) fun x5 =>
(if x5 = 0 then
some ((-1000001), M)
else
b1 (fX6_placeIsAllowed M) fun x8 =>
(if x8 = 0 then
some ((-1000002), M)
else
b1 (fX3_findBest M w1) fun M11 =>
gd (inb w2 3) <|
some (M11.1 91 (ix w2), M11))))
def fX11_layAround_L73 (x7 : Int32) (x1 : Int32) (x11 : Int32) (x17 : Int32) : (Int64 × Int32 × Int32 × Mm) → Option ((Int64 × Int32 × Int32 × Mm) ⊕ (Int64 × Int32 × Mm)) :=
u4 (fun (y21 : Int64) (x22 : Int32) (x23 : Int32) (M24 : Mm) =>
(if x7 < x23 then
some (Sum.inr (y21, x22, M24))
else
bd ((M24.1 96 18) + (x1 * x11)) fun x26 =>
bd ((M24.1 96 19) + (x1 * x17)) fun x27 =>
bd ((M24.1 96 20) + (x1 * x23)) fun x28 =>
b1 (fX11_isAllowed M24 x26 x27 x28) fun x30 =>
bd (fun (y33 : Int64) (x34 : Int32) (M35 : Mm) =>
bd (x23 + 1) fun x36 =>
some (Sum.inl (y33, x34, x36, M35))) fun k31 =>
(if x30 = 0 then
k31 y21 x22 M24
else
bd (fun (_ : Unit) =>
b1 (fX11_valueAt M24 x26 x27 x28 0) fun y41 =>
bd (stI M24 101 0 x26) fun M42 =>
bd (stI M42 101 1 x27) fun M43 =>
bd (stI M43 101 2 x28) fun M44 =>
k31 y41 1 M44) fun k38 =>
(if x22 = 0 then
k38 ()
else
b1 (fX11_valueAt M24 x26 x27 x28 0) fun y47 =>
(if 0 ≤ (lg_cmp y47 y21) then
k31 y21 x22 M24
else
k38 ())))))
def fX11_layAround_L62 (x4 : Int32) (x7 : Int32) (x1 : Int32) (x11 : Int32) : (Int64 × Int32 × Int32 × Mm) → Option ((Int64 × Int32 × Int32 × Mm) ⊕ (Int64 × Int32 × Mm)) :=
u4 (fun (y15 : Int64) (x16 : Int32) (x17 : Int32) (M18 : Mm) =>
(if x4 < x17 then
some (Sum.inr (y15, x16, M18))
else
bd (-x7) fun x20 =>
b3 (itr (fX11_layAround_L73 x7 x1 x11 x17) 1000 (y15, x16, x20, M18)) fun y50 x51 M52 =>
bd (x17 + 1) fun x53 =>
some (Sum.inl (y50, x51, x53, M52))))
def fX11_layAround_L52 (w1 : Int32) (x4 : Int32) (x7 : Int32) (x1 : Int32) : (Int64 × Int32 × Int32 × Mm) → Option ((Int64 × Int32 × Int32 × Mm) ⊕ (Mm)) :=
u4 (fun (y9 : Int64) (x10 : Int32) (x11 : Int32) (M12 : Mm) =>
(if w1 < x11 then
some (Sum.inr M12)
else
bd (-x4) fun x14 =>
b3 (itr (fX11_layAround_L62 x4 x7 x1 x11) 1000 (y9, x10, x14, M12)) fun y56 x57 M58 =>
bd (x11 + 1) fun x59 =>
some (Sum.inl (y56, x57, x59, M58))))
def fX11_layAround (M : Mm) (w1 : Int32) : Option (Mm) :=
bd (1 <<< ((M.1 96 3) &&& 31)) fun x1 =>
bd (fun (x4 : Int32) =>
bd (fun (x7 : Int32) =>
bd (-w1) fun x8 =>
b1 (itr (fX11_layAround_L52 w1 x4 x7 x1) 1000 (0, 0, x8, M)) fun M62 =>
some M62) fun k5 =>
(if (M.1 96 0) ≤ 2 then
k5 0
else
k5 w1)) fun k2 =>
(if (M.1 96 0) ≤ 1 then
k2 0
else
k2 w1)
def fX11_around (M : Mm) (w1 : Int32) (w2 : Int32) : Option (Int32 × Mm) :=
b1 (fX11_in w1 0 3) fun x2 =>
(if x2 = 0 then
some ((-1000001), M)
else
b1 (fX11_in w2 0 2) fun x5 =>
(if x5 = 0 then
some ((-1000001), M)
else
b1 (fX11_isHereAllowed M) fun x8 =>
(if x8 = 0 then
some ((-1000002), M)
else
b1 (fX11_layAround M w1) fun M11 =>
gd (inb w2 3) <|
some (M11.1 101 (ix w2), M11))))
def fX10_keep (M : Mm) : Option (Int32 × Mm) :=
b1 (fX6_copyFrom 67 1 M) fun M2 =>
bd (stI M2 0 3 1) fun M3 =>
some (M3.1 2 0, M3)
def fX11_keep_L7 : (Int32 × Mm) → Option ((Int32 × Mm) ⊕ (Mm)) :=
u2 (fun (x2 : Int32) (M3 : Mm) =>
(if 111 ≤ x2 then
some (Sum.inr M3)
else
gd (inb x2 111) <|
bd (stI M3 98 (ix x2) (M3.1 96 (ix x2))) fun M6 =>
bd (x2 + 1) fun x7 =>
some (Sum.inl (x7, M6))))
def fX11_keep (M : Mm) : Option (Int32 × Mm) :=
bd (stI M 95 4 1) fun M1 =>
b1 (itr (fX11_keep_L7) 1000 (0, M1)) fun M9 =>
some (M9.1 96 1, M9)
def fX10_restore (M : Mm) : Option (Int32 × Mm) :=
(if (M.1 0 3) = 0 then
some ((-1000002), M)
else
b1 (fX2_push M) fun M3 =>
b1 (fX6_copyFrom 1 67 M3) fun M5 =>
some (M5.1 2 0, M5))
def fX11_restore_L16 : (Int32 × Mm) → Option ((Int32 × Mm) ⊕ (Mm)) :=
u2 (fun (x4 : Int32) (M5 : Mm) =>
(if 111 ≤ x4 then
some (Sum.inr M5)
else
gd (inb x4 111) <|
bd (stI M5 96 (ix x4) (M5.1 98 (ix x4))) fun M8 =>
bd (x4 + 1) fun x9 =>
some (Sum.inl (x9, M8))))
def fX11_restore (M : Mm) : Option (Int32 × Mm) :=
(if (M.1 95 4) = 0 then
some ((-1000002), M)
else
b1 (fX11_record M) fun M3 =>
b1 (itr (fX11_restore_L16) 1000 (0, M3)) fun M11 =>
some (M11.1 96 1, M11))
def fX2_giveBack (M : Mm) : Option (Mm) :=
b1 (fX6_copyFrom 1 15 M) fun M2 =>
b1 (fX6_copyFrom 15 28 M2) fun M4 =>
b1 (fX6_copyFrom 28 41 M4) fun M6 =>
b1 (fX6_copyFrom 41 54 M6) fun M8 =>
bd (stI M8 14 0 ((M8.1 14 0) - 1)) fun M9 =>
some M9
def fX10_undo (M : Mm) : Option (Int32 × Mm) :=
(if (M.1 14 0) = 0 then
some ((-1000002), M)
else
b1 (fX2_giveBack M) fun M3 =>
some (M3.1 14 0, M3))
def fX11_undo_L22 : (Int32 × Mm) → Option ((Int32 × Mm) ⊕ (Mm)) :=
u2 (fun (x3 : Int32) (M4 : Mm) =>
(if 111 ≤ x3 then
some (Sum.inr M4)
else
gd (inb (((M4.1 95 3) * 111) + x3) 444) <|
gd (inb x3 111) <|
bd (stI M4 96 (ix x3) (M4.1 97 (ix (((M4.1 95 3) * 111) + x3)))) fun M8 =>
bd (x3 + 1) fun x9 =>
some (Sum.inl (x9, M8))))
def fX11_undo (M : Mm) : Option (Int32 × Mm) :=
(if (M.1 95 3) = 0 then
some ((-1000002), M)
else
bd (stI M 95 3 ((M.1 95 3) - 1)) fun M2 =>
b1 (itr (fX11_undo_L22) 1000 (0, M2)) fun M11 =>
some (M11.1 95 3, M11))
def fX8_append (M : Mm) (w1 : Int32) : Option (Mm) :=
(if 60 ≤ (M.1 80 0) then
some M
else
gd (inb (M.1 80 0) 60) <|
bd (stI M 81 (ix (M.1 80 0)) w1) fun M3 =>
bd (stI M3 80 0 ((M3.1 80 0) + 1)) fun M4 =>
some M4)
def fX10_type (M : Mm) (w1 : Int32) : Option (Int32 × Mm) :=
b1 (fX10_within w1 32 126) fun x2 =>
(if x2 = 0 then
some ((-1000001), M)
else
(if (M.1 80 0) < 60 then
b1 (fX8_append M w1) fun M6 =>
some (M6.1 80 0, M6)
else
some ((-1000003), M)))
def fX11_type (M : Mm) (w1 : Int32) : Option (Int32 × Mm) :=
b1 (fX11_in w1 32 126) fun x2 =>
(if x2 = 0 then
some ((-1000001), M)
else
(if (M.1 95 6) = 60 then
some ((-1000003), M)
else
gd (inb (M.1 95 6) 60) <|
bd (stI M 99 (ix (M.1 95 6)) (i2c w1)) fun M6 =>
bd (stI M6 95 6 ((M6.1 95 6) + 1)) fun M7 =>
some (M7.1 95 6, M7)))
def fX10_clearText (M : Mm) : Option (Int32 × Mm) :=
bd (M.1 80 0) fun x1 =>
bd (stI M 80 0 0) fun M2 =>
some (x1, M2)
def fX11_clearText (M : Mm) : Option (Int32 × Mm) :=
bd (M.1 95 6) fun x1 =>
bd (stI M 95 6 0) fun M2 =>
some (x1, M2)
def fX8_beginTerm_L22 : (Int32 × Mm) → Option ((Int32 × Mm) ⊕ (Mm)) :=
u2 (fun (x6 : Int32) (M7 : Mm) =>
(if 3 ≤ x6 then
some (Sum.inr M7)
else
gd (inb x6 3) <|
bd (stI M7 85 (ix x6) 0) fun M10 =>
bd (x6 + 1) fun x11 =>
some (Sum.inl (x11, M10))))
def fX8_beginTerm (M : Mm) (w1 : Int32) : Option (Mm) :=
gd (w1 = 0 ∨ w1 = 1) <|
bd (stI M 80 5 w1) fun M2 =>
bd (stI M2 80 6 0) fun M3 =>
bd (stI M3 80 7 0) fun M4 =>
bd (stI M4 80 8 0) fun M5 =>
b1 (itr (fX8_beginTerm_L22) 1000 (0, M5)) fun M13 =>
some M13
def fX8_termIsEmpty (M : Mm) : Option (Int32) :=
(if (M.1 80 6) = 0 then
(if (M.1 80 8) = 0 then
some 1
else
some 0)
else
some 0)
def fX7_add_82 (M : Mm) (w1 : Int32) (w2 : Int32) (w3 : Int32) (w4 : Int32) : Option (Mm) :=
(if (M.1 82 0) < 10 then
gd (inb (M.1 82 0) 10) <|
bd (stI M 83 (ix (M.1 82 0)) w1) fun M3 =>
gd (inb (3 * (M3.1 82 0)) 30) <|
bd (stI M3 84 (ix (3 * (M3.1 82 0))) w2) fun M5 =>
gd (inb ((3 * (M5.1 82 0)) + 1) 30) <|
bd (stI M5 84 (ix ((3 * (M5.1 82 0)) + 1)) w3) fun M7 =>
gd (inb ((3 * (M7.1 82 0)) + 2) 30) <|
bd (stI M7 84 (ix ((3 * (M7.1 82 0)) + 2)) w4) fun M9 =>
bd (stI M9 82 0 ((M9.1 82 0) + 1)) fun M10 =>
some M10
else
some M)
def fX8_endTerm (M : Mm) : Option (Mm) :=
bd (fun (x3 : Int32) =>
bd (fun (x6 : Int32) =>
b1 (fX7_add_82 M x6 (M.1 85 0) (M.1 85 1) (M.1 85 2)) fun M8 =>
some M8) fun k4 =>
(if (M.1 80 5) = 0 then
k4 x3
else
k4 (-x3))) fun k1 =>
(if (M.1 80 6) = 0 then
k1 1
else
k1 (M.1 80 7))
def fX8_setFault (M : Mm) (w1 : Int32) (w2 : Int32) : Option (Mm) :=
bd (stI M 80 3 w1) fun M1 =>
bd (stI M1 80 4 w2) fun M2 =>
some M2
def fX8_scanEnd (M : Mm) : Option (Mm) :=
b1 (fX8_termIsEmpty M) fun x2 =>
(if x2 = 0 then
b1 (fX8_endTerm M) fun M5 =>
some M5
else
b1 (fX8_setFault M (M.1 80 0) 1) fun M7 =>
some M7)
def fX8_scanSign (M : Mm) (w1 : Int32) (w2 : Int32) : Option (Mm) :=
b1 (fX8_termIsEmpty M) fun x2 =>
(if x2 = 0 then
(if ((M.1 82 0) + 1) < 10 then
b1 (fX8_endTerm M) fun M6 =>
b1 (fX8_beginTerm M6 w2) fun M8 =>
some M8
else
b1 (fX8_setFault M w1 4) fun M10 =>
some M10)
else
(if w1 = 0 then
(if w2 = 0 then
b1 (fX8_setFault M w1 1) fun M16 =>
some M16
else
bd (stI M 80 5 1) fun M17 =>
some M17)
else
b1 (fX8_setFault M w1 1) fun M13 =>
some M13))
def fX8_scanDigit (M : Mm) (w1 : Int32) (w2 : Int32) : Option (Mm) :=
(if 0 < (M.1 80 8) then
b1 (fX8_setFault M w1 1) fun M3 =>
some M3
else
(if 2 ≤ (M.1 80 6) then
b1 (fX8_setFault M w1 1) fun M6 =>
some M6
else
bd (fun (_ : Unit) =>
bd (stI M 80 6 ((M.1 80 6) + 1)) fun M9 =>
bd (stI M9 80 7 ((10 * (M9.1 80 7)) + w2)) fun M10 =>
some M10) fun k7 =>
(if (M.1 80 6) = 0 then
(if w2 = 0 then
b1 (fX8_setFault M w1 1) fun M14 =>
some M14
else
k7 ())
else
k7 ())))
def fX8_scanLetter (M : Mm) (w1 : Int32) (w2 : Int32) (w3 : Int32) : Option (Mm) :=
(if w2 < w3 then
(if (M.1 80 8) < 4 then
bd (stI M 80 8 ((M.1 80 8) + 1)) fun M3 =>
gd (inb w2 3) <|
bd (stI M3 85 (ix w2) ((M3.1 85 (ix w2)) + 1)) fun M5 =>
some M5
else
b1 (fX8_setFault M w1 3) fun M7 =>
some M7)
else
b1 (fX8_setFault M w1 2) fun M9 =>
some M9)
def fX8_scanCharacter (M : Mm) (w1 : Int32) (w2 : Int32) (w3 : Int32) : Option (Mm) :=
b1 (fX10_within w2 120 122) fun x2 =>
(if x2 = 0 then
b1 (fX10_within w2 48 57) fun x5 =>
(if x5 = 0 then
bd (fun (_ : Unit) =>
(if w2 = 45 then
b1 (fX8_scanSign M w1 1) fun M13 =>
some M13
else
b1 (fX8_scanSign M w1 0) fun M11 =>
some M11)) fun k7 =>
(if w2 = 43 then
k7 ()
else
(if w2 = 45 then
k7 ()
else
b1 (fX8_setFault M w1 1) fun M17 =>
some M17))
else
b1 (fX8_scanDigit M w1 (w2 - 48)) fun M19 =>
some M19)
else
b1 (fX8_scanLetter M w1 (w2 - 120) w3) fun M21 =>
some M21)
def fX8_isFunction_L25 (w1 : Int32) : (Int32 × Mm) → Option ((Int32 × Mm) ⊕ (Mm)) :=
u2 (fun (x6 : Int32) (M7 : Mm) =>
(if (M7.1 80 0) ≤ x6 then
some (Sum.inr M7)
else
(if (M7.1 80 4) = 0 then
gd (inb x6 60) <|
b1 (fX8_scanCharacter M7 x6 (M7.1 81 (ix x6)) w1) fun M12 =>
bd (x6 + 1) fun x13 =>
some (Sum.inl (x13, M12))
else
some (Sum.inr M7))))
def fX8_isFunction (M : Mm) (w1 : Int32) : Option (Int32 × Mm) :=
bd (stI M 82 0 0) fun M1 =>
bd (stI M1 80 3 0) fun M2 =>
bd (stI M2 80 4 0) fun M3 =>
b1 (fX8_beginTerm M3 0) fun M5 =>
b1 (itr (fX8_isFunction_L25 w1) 1000 (0, M5)) fun M15 =>
(if (M15.1 80 4) = 0 then
b1 (fX8_scanEnd M15) fun M19 =>
(if (M19.1 80 4) = 0 then
some (1, M19)
else
some (0, M19))
else
(if (M15.1 80 4) = 0 then
some (1, M15)
else
some (0, M15)))
def fX10_fault (M : Mm) (w1 : Int32) : Option (Int32 × Mm) :=
b1 (fX10_within w1 0 1) fun x2 =>
(if x2 = 0 then
some ((-1000001), M)
else
b2 (fX8_isFunction M (M.1 1 0)) fun x5 M6 =>
(if x5 = 0 then
(if w1 = 0 then
some (M6.1 80 3, M6)
else
some (M6.1 80 4, M6))
else
some ((-1000004), M6)))
def fX11_letter (M : Mm) (w1 : Int32) : Option (Int32) :=
(if (M.1 95 6) ≤ w1 then
some (-1)
else
gd (inb w1 60) <|
some (M.1 99 (ix w1)))
def fX11_isDigit (M : Mm) (w1 : Int32) : Option (Int32) :=
b1 (fX11_letter M w1) fun x2 =>
(if x2 < 48 then
some 0
else
b1 (fX11_letter M w1) fun x5 =>
(if 57 < x5 then
some 0
else
some 1))
def fX11_fail (M : Mm) (w1 : Int32) : Option (Mm) :=
(if (M.1 95 14) = 0 then
bd (stI M 95 14 w1) fun M2 =>
bd (stI M2 95 13 (M2.1 95 12)) fun M3 =>
some M3
else
some M)
def fX11_readNumber (M : Mm) : Option (Int32 × Mm) :=
b1 (fX11_isDigit M (M.1 95 12)) fun x2 =>
(if x2 = 0 then
some (1, M)
else
b1 (fX11_letter M (M.1 95 12)) fun x5 =>
bd (fun (M8 : Mm) =>
b1 (fX11_letter M8 (M8.1 95 12)) fun x10 =>
bd (x10 - 48) fun x11 =>
bd (stI M8 95 12 ((M8.1 95 12) + 1)) fun M12 =>
b1 (fX11_isDigit M12 (M12.1 95 12)) fun x14 =>
(if x14 = 0 then
some (x11, M12)
else
b1 (fX11_letter M12 (M12.1 95 12)) fun x17 =>
bd (((10 * x11) + x17) - 48) fun x18 =>
bd (stI M12 95 12 ((M12.1 95 12) + 1)) fun M19 =>
some (x18, M19))) fun k6 =>
(if x5 = 48 then
b1 (fX11_fail M 1) fun M22 =>
k6 M22
else
k6 M))
def fX11_readLetters_L2 (w1 : Int32) : (Int32 × Mm) → Option ((Int32 × Mm) ⊕ (Mm)) :=
u2 (fun (x1 : Int32) (M2 : Mm) =>
(if (M2.1 95 14) = 0 then
b1 (fX11_letter M2 (M2.1 95 12)) fun x5 =>
b1 (fX11_in x5 120 122) fun x7 =>
(if x7 = 0 then
some (Sum.inr M2)
else
b1 (fX11_letter M2 (M2.1 95 12)) fun x10 =>
bd (x10 - 120) fun x11 =>
b1 (fX11_isVariable M2 x11) fun x13 =>
bd (fun (x16 : Int32) (M17 : Mm) =>
some (Sum.inl (x16, M17))) fun k14 =>
(if x13 = 0 then
b1 (fX11_fail M2 2) fun M27 =>
k14 x1 M27
else
(if x1 = 4 then
b1 (fX11_fail M2 3) fun M25 =>
k14 x1 M25
else
gd (inb (((4 * w1) + 1) + x11) 40) <|
bd (stI M2 102 (ix (((4 * w1) + 1) + x11)) ((M2.1 102 (ix (((4 * w1) + 1) + x11))) + 1)) fun M21 =>
bd (x1 + 1) fun x22 =>
bd (stI M21 95 12 ((M21.1 95 12) + 1)) fun M23 =>
k14 x22 M23)))
else
some (Sum.inr M2)))
def fX11_readLetters (M : Mm) (w1 : Int32) : Option (Mm) :=
b1 (itr (fX11_readLetters_L2 w1) 1000 (0, M)) fun M29 =>
some M29
def fX11_readTerm_L7 (x1 : Int32) : (Int32 × Mm) → Option ((Int32 × Mm) ⊕ (Mm)) :=
u2 (fun (x2 : Int32) (M3 : Mm) =>
(if 4 ≤ x2 then
some (Sum.inr M3)
else
gd (inb ((4 * x1) + x2) 40) <|
bd (stI M3 102 (ix ((4 * x1) + x2)) 0) fun M6 =>
bd (x2 + 1) fun x7 =>
some (Sum.inl (x7, M6))))
def fX11_readTerm (M : Mm) (w1 : Int32) : Option (Mm) :=
bd (M.1 95 11) fun x1 =>
b1 (itr (fX11_readTerm_L7 x1) 1000 (1, M)) fun M9 =>
b1 (fX11_isDigit M9 (M9.1 95 12)) fun x11 =>
bd (fun (M14 : Mm) =>
b2 (fX11_readNumber M14) fun x16 M17 =>
b1 (fX11_readLetters M17 x1) fun M19 =>
bd (fun (x22 : Int32) =>
gd (inb (4 * x1) 40) <|
bd (stI M19 102 (ix (4 * x1)) x22) fun M24 =>
bd (stI M24 95 11 ((M24.1 95 11) + 1)) fun M25 =>
some M25) fun k20 =>
(if w1 = 0 then
k20 x16
else
k20 (-x16))) fun k12 =>
(if x11 = 0 then
b1 (fX11_letter M9 (M9.1 95 12)) fun x29 =>
b1 (fX11_in x29 120 122) fun x31 =>
(if x31 = 0 then
b1 (fX11_fail M9 1) fun M34 =>
k12 M34
else
k12 M9)
else
k12 M9)
def fX11_readText_L54 : (Mm) → Option ((Mm) ⊕ (Mm)) :=
fun (M15 : Mm) =>
(if (M15.1 95 14) = 0 then
(if (M15.1 95 6) ≤ (M15.1 95 12) then
some (Sum.inr M15)
else
b1 (fX11_letter M15 (M15.1 95 12)) fun x19 =>
bd (fun (M22 : Mm) =>
some (Sum.inl M22)) fun k20 =>
bd (fun (_ : Unit) =>
(if (M15.1 95 11) = 10 then
b1 (fX11_fail M15 4) fun M34 =>
k20 M34
else
bd (stI M15 95 12 ((M15.1 95 12) + 1)) fun M26 =>
bd (fun (x29 : Int32) =>
b1 (fX11_readTerm M26 x29) fun M31 =>
k20 M31) fun k27 =>
(if x19 = 45 then
k27 1
else
k27 0))) fun k23 =>
(if x19 = 43 then
k23 ()
else
(if x19 = 45 then
k23 ()
else
b1 (fX11_fail M15 1) fun M38 =>
k20 M38)))
else
some (Sum.inr M15))
def fX11_readText (M : Mm) : Option (Mm) :=
bd (stI M 95 14 0) fun M1 =>
bd (stI M1 95 11 0) fun M2 =>
bd (stI M2 95 12 0) fun M3 =>
b1 (fX11_letter M3 0) fun x5 =>
bd (fun (x8 : Int32) =>
bd (fun (x11 : Int32) =>
bd (stI M3 95 12 ((M3.1 95 12) + x11)) fun M12 =>
b1 (fX11_readTerm M12 x8) fun M14 =>
b1 (itr (fX11_readText_L54) 1000 M14) fun M40 =>
some M40) fun k9 =>
(if x8 = 0 then
k9 0
else
k9 1)) fun k6 =>
(if x5 = 45 then
k6 1
else
k6 0)
def fX11_fault (M : Mm) (w1 : Int32) : Option (Int32 × Mm) :=
b1 (fX11_in w1 0 1) fun x2 =>
(if x2 = 0 then
some ((-1000001), M)
else
b1 (fX11_readText M) fun M5 =>
(if (M5.1 95 14) = 0 then
some ((-1000004), M5)
else
(if w1 = 0 then
some (M5.1 95 13, M5)
else
some (M5.1 95 14, M5))))
def fX10_read (M : Mm) : Option (Int32 × Mm) :=
b2 (fX8_isFunction M (M.1 1 0)) fun x2 M3 =>
(if x2 = 0 then
some ((-1000002), M3)
else
b1 (fX2_push M3) fun M6 =>
b1 (fX7_copyFrom 2 82 M6) fun M8 =>
some (M8.1 2 0, M8))
def fX11_read_L30 : (Int32 × Mm) → Option ((Int32 × Mm) ⊕ (Mm)) :=
u2 (fun (x7 : Int32) (M8 : Mm) =>
(if (M8.1 95 11) ≤ x7 then
some (Sum.inr M8)
else
gd (inb (4 * x7) 40) <|
gd (inb ((4 * x7) + 1) 40) <|
gd (inb ((4 * x7) + 2) 40) <|
gd (inb ((4 * x7) + 3) 40) <|
b1 (fX11_putTerm M8 x7 (M8.1 102 (ix (4 * x7))) (M8.1 102 (ix ((4 * x7) + 1))) (M8.1 102 (ix ((4 * x7) + 2))) (M8.1 102 (ix ((4 * x7) + 3)))) fun M15 =>
bd (x7 + 1) fun x16 =>
some (Sum.inl (x16, M15))))
def fX11_read (M : Mm) : Option (Int32 × Mm) :=
b1 (fX11_readText M) fun M2 =>
(if (M2.1 95 14) = 0 then
b1 (fX11_record M2) fun M5 =>
bd (stI M5 96 1 (M5.1 95 11)) fun M6 =>
b1 (itr (fX11_read_L30) 1000 (0, M6)) fun M18 =>
some (M18.1 95 11, M18)
else
some ((-1000002), M2))
end
