set_option maxHeartbeats 4000000 in
set_option maxRecDepth 100000 in
theorem c_X10_poll {ad : Nat → Nat} {cs : List Nat} (hcs : ∀ k, 0 ≤ k → k < 90 → k ∈ cs) (M : Mm) (q : Int32 × Mm) (h : fX10_poll M = some q) : CT ad cs yX10_poll cX10_poll 1 (some .int) 5 126 [.ref (ad 0)] M (some (.int q.1)) q.2 := by
  refine CT.of RX10 (by decide +kernel) rfl (Nat.le_of_ble_eq_true rfl) (fun X hX hR => ?_)
  unfold fX10_poll at h
  show VV X 1 ad cs M 0 [(0, .ref (ad 0))] []
  refine v_aload_n (pc := 0) 0 hX dX10_poll_0 rfl ?_
  refine v_getR (pc := 1) (t := 1) hX (hcs 0 (Nat.le_of_ble_eq_true rfl) (Nat.le_of_ble_eq_true rfl)) sh_0 fl_10_10 rfl dX10_poll_1 ?_
  obtain ⟨x2, h1, h⟩ := b1_e h
  refine v_callV (pc := 4) [] (some (.int x2)) M hX cv_10_160 (c_X6_canPoll (sub_cs hcs (Nat.le_of_ble_eq_true rfl) (Nat.le_of_ble_eq_true rfl)) M x2 h1) (hcs 1 (Nat.le_of_ble_eq_true rfl) (Nat.le_of_ble_eq_true rfl)) sh_1 rfl rfl rfl ⟨Nat.le_of_ble_eq_true rfl, Nat.le_of_ble_eq_true rfl⟩ (Nat.le_of_ble_eq_true rfl) dX10_poll_4 ?_
  show VV X 1 ad cs M 7 [(0, .ref (ad 0))] [.int x2]
  refine v_if_ne (pc := 7) (tgt := 13) hX dX10_poll_7 (by decide) (fun h3 => ?_) (fun h3 => ?_)
  · have h := if_f h h3
    refine v_aload_n (pc := 13) 0 hX dX10_poll_13 rfl ?_
    refine v_getR (pc := 14) (t := 14) hX (hcs 0 (Nat.le_of_ble_eq_true rfl) (Nat.le_of_ble_eq_true rfl)) sh_0 fl_10_23 rfl dX10_poll_14 ?_
    refine v_aload_n (pc := 17) 0 hX dX10_poll_17 rfl ?_
    refine v_getR (pc := 18) (t := 1) hX (hcs 0 (Nat.le_of_ble_eq_true rfl) (Nat.le_of_ble_eq_true rfl)) sh_0 fl_10_10 rfl dX10_poll_18 ?_
    obtain ⟨M5, h4, h⟩ := b1_e h
    refine v_callV (pc := 21) [.ref (ad 1)] none M5 hX cv_10_71 (c_X2_push (sub_cs hcs (Nat.le_of_ble_eq_true rfl) (Nat.le_of_ble_eq_true rfl)) M M5 h4) (hcs 14 (Nat.le_of_ble_eq_true rfl) (Nat.le_of_ble_eq_true rfl)) sh_14 rfl rfl rfl ⟨Nat.le_of_ble_eq_true rfl, Nat.le_of_ble_eq_true rfl⟩ (Nat.le_of_ble_eq_true rfl) dX10_poll_21 ?_
    show VV X 1 ad cs M5 24 [(0, .ref (ad 0))] []
    refine v_aload_n (pc := 24) 0 hX dX10_poll_24 rfl ?_
    refine v_getR (pc := 25) (t := 1) hX (hcs 0 (Nat.le_of_ble_eq_true rfl) (Nat.le_of_ble_eq_true rfl)) sh_0 fl_10_10 rfl dX10_poll_25 ?_
    refine v_aload_n (pc := 28) 0 hX dX10_poll_28 rfl ?_
    refine v_getR (pc := 29) (t := 86) hX (hcs 0 (Nat.le_of_ble_eq_true rfl) (Nat.le_of_ble_eq_true rfl)) sh_0 fl_10_44 rfl dX10_poll_29 ?_
    obtain ⟨x7, M8, h6, h⟩ := b2_e h
    refine v_callV (pc := 32) [.ref (ad 86)] (some (.int x7)) M8 hX cv_10_163 (c_X6_pollOnce (sub_cs hcs (Nat.le_of_ble_eq_true rfl) (Nat.le_of_ble_eq_true rfl)) M5 (x7, M8) h6) (hcs 1 (Nat.le_of_ble_eq_true rfl) (Nat.le_of_ble_eq_true rfl)) sh_1 rfl rfl rfl ⟨Nat.le_of_ble_eq_true rfl, Nat.le_of_ble_eq_true rfl⟩ (Nat.le_of_ble_eq_true rfl) dX10_poll_32 ?_
    show VV X 1 ad cs M8 35 [(0, .ref (ad 0))] [.int x7]
    obtain rfl := Option.some.inj h
    exact v_iret (pc := 35) hX hR dX10_poll_35
  · have h := if_t h h3
    refine v_ldc (pc := 10) hX kc_10_93 dX10_poll_10 ?_
    obtain rfl := Option.some.inj h
    exact v_iret (pc := 12) hX hR dX10_poll_12
set_option maxHeartbeats 4000000 in
set_option maxRecDepth 100000 in
theorem c_X10_leftAt {ad : Nat → Nat} {cs : List Nat} (hcs : ∀ k, 0 ≤ k → k < 14 → k ∈ cs) (M : Mm) (w1 : Int32) (w2 : Int32) (q : Int32) (h : fX10_leftAt M w1 w2 = some q) : CT ad cs yX10_leftAt cX10_leftAt 3 (some .int) 2 43 [.ref (ad 0), .int w1, .int w2] M (some (.int q)) M := by
  refine CT.of RX10 (by decide +kernel) rfl (Nat.le_of_ble_eq_true rfl) (fun X hX hR => ?_)
  unfold fX10_leftAt at h
  show VV X 3 ad cs M 0 [(0, .ref (ad 0)), (1, .int w1), (2, .int w2)] []
  refine v_iload_n (pc := 0) 1 hX dX10_leftAt_0 rfl ?_
  refine v_if_lt (pc := 1) (tgt := 15) hX dX10_leftAt_1 (by decide) (fun h1 => ?_) (fun h1 => ?_)
  · have h := if_t h h1
    refine v_ldc (pc := 15) hX kc_10_66 dX10_leftAt_15 ?_
    obtain rfl := Option.some.inj h
    exact v_iret (pc := 17) hX hR dX10_leftAt_17
  · have h := if_f h h1
    refine v_aload_n (pc := 4) 0 hX dX10_leftAt_4 rfl ?_
    refine v_getR (pc := 5) (t := 1) hX (hcs 0 (Nat.le_of_ble_eq_true rfl) (Nat.le_of_ble_eq_true rfl)) sh_0 fl_10_10 rfl dX10_leftAt_5 ?_
    refine v_iload_n (pc := 8) 2 hX dX10_leftAt_8 rfl ?_
    obtain ⟨x3, h2, h⟩ := b1_e h
    refine v_callV (pc := 9) [.int w2] (some (.int x3)) M hX cv_10_101 (c_X6_hasVariable (sub_cs hcs (Nat.le_of_ble_eq_true rfl) (Nat.le_of_ble_eq_true rfl)) M w2 x3 h2) (hcs 1 (Nat.le_of_ble_eq_true rfl) (Nat.le_of_ble_eq_true rfl)) sh_1 rfl rfl rfl ⟨Nat.le_of_ble_eq_true rfl, Nat.le_of_ble_eq_true rfl⟩ (Nat.le_of_ble_eq_true rfl) dX10_leftAt_9 ?_
    show VV X 3 ad cs M 12 [(0, .ref (ad 0)), (1, .int w1), (2, .int w2)] [.int x3]
    refine v_if_ne (pc := 12) (tgt := 18) hX dX10_leftAt_12 (by decide) (fun h4 => ?_) (fun h4 => ?_)
    · have h := if_f h h4
      refine v_iload_n (pc := 18) 1 hX dX10_leftAt_18 rfl ?_
      refine v_aload_n (pc := 19) 0 hX dX10_leftAt_19 rfl ?_
      refine v_getR (pc := 20) (t := 1) hX (hcs 0 (Nat.le_of_ble_eq_true rfl) (Nat.le_of_ble_eq_true rfl)) sh_0 fl_10_10 rfl dX10_leftAt_20 ?_
      refine v_getR (pc := 23) (t := 11) hX (hcs 1 (Nat.le_of_ble_eq_true rfl) (Nat.le_of_ble_eq_true rfl)) sh_1 fl_10_139 rfl dX10_leftAt_23 ?_
      refine v_getI (pc := 26) hX (hcs 11 (Nat.le_of_ble_eq_true rfl) (Nat.le_of_ble_eq_true rfl)) sh_11 fl_10_206 rfl dX10_leftAt_26 ?_
      refine v_icmp_lt (pc := 29) (tgt := 35) hX dX10_leftAt_29 (by decide) (fun h5 => ?_) (fun h5 => ?_)
      · have h := if_t h h5
        refine v_aload_n (pc := 35) 0 hX dX10_leftAt_35 rfl ?_
        refine v_getR (pc := 36) (t := 1) hX (hcs 0 (Nat.le_of_ble_eq_true rfl) (Nat.le_of_ble_eq_true rfl)) sh_0 fl_10_10 rfl dX10_leftAt_36 ?_
        refine v_getR (pc := 39) (t := 11) hX (hcs 1 (Nat.le_of_ble_eq_true rfl) (Nat.le_of_ble_eq_true rfl)) sh_1 fl_10_139 rfl dX10_leftAt_39 ?_
        refine v_getR (pc := 42) (t := 13) hX (hcs 11 (Nat.le_of_ble_eq_true rfl) (Nat.le_of_ble_eq_true rfl)) sh_11 fl_10_209 rfl dX10_leftAt_42 ?_
        refine v_iconst (pc := 45) hX dX10_leftAt_45 ic_3 ?_
        refine v_iload_n (pc := 46) 1 hX dX10_leftAt_46 rfl ?_
        refine v_imul (pc := 47) hX dX10_leftAt_47 ?_
        refine v_iload_n (pc := 48) 2 hX dX10_leftAt_48 rfl ?_
        refine v_iadd (pc := 49) hX dX10_leftAt_49 ?_
        obtain ⟨g6, h⟩ := gd_e h
        refine v_iald (pc := 50) hX (hcs 13 (Nat.le_of_ble_eq_true rfl) (Nat.le_of_ble_eq_true rfl)) sh_13 g6 rfl dX10_leftAt_50 ?_
        obtain rfl := Option.some.inj h
        exact v_iret (pc := 51) hX hR dX10_leftAt_51
      · have h := if_f h h5
        refine v_ldc (pc := 32) hX kc_10_178 dX10_leftAt_32 ?_
        obtain rfl := Option.some.inj h
        exact v_iret (pc := 34) hX hR dX10_leftAt_34
    · have h := if_t h h4
      refine v_ldc (pc := 15) hX kc_10_66 dX10_leftAt_15 ?_
      obtain rfl := Option.some.inj h
      exact v_iret (pc := 17) hX hR dX10_leftAt_17
set_option maxHeartbeats 4000000 in
set_option maxRecDepth 100000 in
theorem c_L_poll {ad : Nat → Nat} {cs : List Nat} (hcs : ∀ k, 0 ≤ k → k < 96 → k ∈ cs) (M : Mm) (q : Int32 × Mm) (h : fL_poll M = some q) : CT ad cs yL_poll cL_poll 21 (some .boolean) 6 157 [.ref (ad 0), .ref (ad 95)] M (some (.int q.1)) q.2 := by
  refine CT.of RL (by decide +kernel) rfl (Nat.le_of_ble_eq_true rfl) (fun X hX hR => ?_)
  unfold fL_poll at h
  show VV X 21 ad cs M 0 [(0, .ref (ad 0)), (1, .ref (ad 95))] []
  refine v_aload_n (pc := 0) 0 hX dL_poll_0 rfl ?_
  refine v_aload_n (pc := 1) 1 hX dL_poll_1 rfl ?_
  obtain ⟨x2, M3, h1, h⟩ := b2_e h
  refine v_callS (pc := 2) [.ref (ad 0), .ref (ad 95)] (some (.int x2)) M3 hX cv_L_88 (c_L_trials (sub_cs hcs (Nat.le_of_ble_eq_true rfl) (Nat.le_of_ble_eq_true rfl)) M (x2, M3) h1) rfl rfl ⟨Nat.le_of_ble_eq_true rfl, Nat.le_of_ble_eq_true rfl⟩ (Nat.le_of_ble_eq_true rfl) dL_poll_2 ?_
  show VV X 21 ad cs M3 5 [(0, .ref (ad 0)), (1, .ref (ad 95))] [.int x2]
  refine v_istore_n (pc := 5) [(2, .int x2), (0, .ref (ad 0)), (1, .ref (ad 95))] hX dL_poll_5 (by decide) rfl ?_
  refine v_aload_n (pc := 6) 1 hX dL_poll_6 rfl ?_
  refine v_iconst (pc := 7) hX dL_poll_7 ic_3 ?_
  obtain ⟨x5, h4, h⟩ := b1_e h
  refine v_callV (pc := 8) [.int 3] (some (.int x5)) M3 hX cv_L_55 (c_X10_searchOf (sub_cs hcs (Nat.le_of_ble_eq_true rfl) (Nat.le_of_ble_eq_true rfl)) M3 3 x5 h4) (hcs 0 (Nat.le_of_ble_eq_true rfl) (Nat.le_of_ble_eq_true rfl)) sh_0 rfl rfl rfl ⟨Nat.le_of_ble_eq_true rfl, Nat.le_of_ble_eq_true rfl⟩ (Nat.le_of_ble_eq_true rfl) dL_poll_8 ?_
  show VV X 21 ad cs M3 11 [(2, .int x2), (0, .ref (ad 0)), (1, .ref (ad 95))] [.int x5]
  refine v_istore_n (pc := 11) [(3, .int x5), (2, .int x2), (0, .ref (ad 0)), (1, .ref (ad 95))] hX dL_poll_11 (by decide) rfl ?_
  refine v_iload_n (pc := 12) 0 hX dL_poll_12 rfl ?_
  refine v_iconst (pc := 13) hX dL_poll_13 ic_1 ?_
  obtain ⟨k6, ek6, h⟩ := bd_e h
  have K7 : ∀ (x8 : Int32), k6 x8 = some q → VV X 21 ad cs M3 50 [(0, .ref (ad 0)), (2, .int x2), (3, .int x5)] [.int x8] := by
    intro x8 h
    subst ek6
    refine v_istore (pc := 50) [(4, .int x8), (0, .ref (ad 0)), (2, .int x2), (3, .int x5)] hX dL_poll_50 (by decide) rfl ?_
    refine v_aload_n (pc := 52) 1 hX dL_poll_52 rfl ?_
    refine v_iload (pc := 53) 0 hX dL_poll_53 rfl ?_
    obtain ⟨x10, M11, h9, h⟩ := b2_e h
    refine v_callV (pc := 55) [.int x8] (some (.int x10)) M11 hX cv_L_92 (c_X10_stuck (sub_cs hcs (Nat.le_of_ble_eq_true rfl) (Nat.le_of_ble_eq_true rfl)) M3 x8 (x10, M11) h9) (hcs 0 (Nat.le_of_ble_eq_true rfl) (Nat.le_of_ble_eq_true rfl)) sh_0 rfl rfl rfl ⟨Nat.le_of_ble_eq_true rfl, Nat.le_of_ble_eq_true rfl⟩ (Nat.le_of_ble_eq_true rfl) dL_poll_55 ?_
    show VV X 21 ad cs M11 58 [(4, .int x8), (0, .ref (ad 0)), (2, .int x2), (3, .int x5)] [.int x10]
    refine v_istore (pc := 58) [(5, .int x10), (4, .int x8), (0, .ref (ad 0)), (2, .int x2), (3, .int x5)] hX dL_poll_58 (by decide) rfl ?_
    refine v_iload_n (pc := 60) 3 hX dL_poll_60 rfl ?_
    refine v_if_ge (pc := 61) (tgt := 66) hX dL_poll_61 (by decide) (fun h12 => ?_) (fun h12 => ?_)
    · have h := if_t h h12
      refine v_iload_n (pc := 66) 3 hX dL_poll_66 rfl ?_
      refine v_bipush (pc := 67) hX dL_poll_67 bp_100 ?_
      refine v_irem (pc := 69) hX dL_poll_69 (by decide) ?_
      refine v_iconst (pc := 70) hX dL_poll_70 ic_1 ?_
      refine v_isub (pc := 71) hX dL_poll_71 ?_
      obtain ⟨x13, ex13, h⟩ := bd_e h
      refine v_top ex13 ?_
      refine v_istore (pc := 72) [(6, .int x13), (5, .int x10), (4, .int x8), (0, .ref (ad 0)), (2, .int x2), (3, .int x5)] hX dL_poll_72 (by decide) rfl ?_
      refine v_aload_n (pc := 74) 3 hX dL_poll_74 rfl ?_
      refine v_iconst (pc := 75) hX dL_poll_75 ic_4 ?_
      obtain ⟨x15, h14, h⟩ := b1_e h
      refine v_callV (pc := 76) [.int 4] (some (.int x15)) M11 hX cv_L_55 (c_X10_searchOf (sub_cs hcs (Nat.le_of_ble_eq_true rfl) (Nat.le_of_ble_eq_true rfl)) M11 4 x15 h14) (hcs 0 (Nat.le_of_ble_eq_true rfl) (Nat.le_of_ble_eq_true rfl)) sh_0 rfl rfl rfl ⟨Nat.le_of_ble_eq_true rfl, Nat.le_of_ble_eq_true rfl⟩ (Nat.le_of_ble_eq_true rfl) dL_poll_76 ?_
      show VV X 21 ad cs M11 79 [(6, .int x13), (5, .int x10), (4, .int x8), (0, .ref (ad 0)), (2, .int x2), (3, .int x5)] [.int x15]
      refine v_istore (pc := 79) [(7, .int x15), (6, .int x13), (5, .int x10), (4, .int x8), (0, .ref (ad 0)), (2, .int x2), (3, .int x5)] hX dL_poll_79 (by decide) rfl ?_
      refine v_aload_n (pc := 81) 4 hX dL_poll_81 rfl ?_
      refine v_iconst (pc := 82) hX dL_poll_82 ic_5 ?_
      obtain ⟨x17, h16, h⟩ := b1_e h
      refine v_callV (pc := 83) [.int 5] (some (.int x17)) M11 hX cv_L_55 (c_X10_searchOf (sub_cs hcs (Nat.le_of_ble_eq_true rfl) (Nat.le_of_ble_eq_true rfl)) M11 5 x17 h16) (hcs 0 (Nat.le_of_ble_eq_true rfl) (Nat.le_of_ble_eq_true rfl)) sh_0 rfl rfl rfl ⟨Nat.le_of_ble_eq_true rfl, Nat.le_of_ble_eq_true rfl⟩ (Nat.le_of_ble_eq_true rfl) dL_poll_83 ?_
      show VV X 21 ad cs M11 86 [(7, .int x15), (6, .int x13), (5, .int x10), (4, .int x8), (0, .ref (ad 0)), (2, .int x2), (3, .int x5)] [.int x17]
      refine v_istore (pc := 86) [(8, .int x17), (7, .int x15), (6, .int x13), (5, .int x10), (4, .int x8), (0, .ref (ad 0)), (2, .int x2), (3, .int x5)] hX dL_poll_86 (by decide) rfl ?_
      refine v_aload_n (pc := 88) 5 hX dL_poll_88 rfl ?_
      refine v_bipush (pc := 89) hX dL_poll_89 bp_6 ?_
      obtain ⟨x19, h18, h⟩ := b1_e h
      refine v_callV (pc := 91) [.int 6] (some (.int x19)) M11 hX cv_L_55 (c_X10_searchOf (sub_cs hcs (Nat.le_of_ble_eq_true rfl) (Nat.le_of_ble_eq_true rfl)) M11 6 x19 h18) (hcs 0 (Nat.le_of_ble_eq_true rfl) (Nat.le_of_ble_eq_true rfl)) sh_0 rfl rfl rfl ⟨Nat.le_of_ble_eq_true rfl, Nat.le_of_ble_eq_true rfl⟩ (Nat.le_of_ble_eq_true rfl) dL_poll_91 ?_
      show VV X 21 ad cs M11 94 [(8, .int x17), (7, .int x15), (6, .int x13), (5, .int x10), (4, .int x8), (0, .ref (ad 0)), (2, .int x2), (3, .int x5)] [.int x19]
      refine v_istore (pc := 94) [(9, .int x19), (8, .int x17), (7, .int x15), (6, .int x13), (5, .int x10), (4, .int x8), (0, .ref (ad 0)), (2, .int x2), (3, .int x5)] hX dL_poll_94 (by decide) rfl ?_
      refine v_aload_n (pc := 96) 6 hX dL_poll_96 rfl ?_
      refine v_bipush (pc := 97) hX dL_poll_97 bp_8 ?_
      obtain ⟨x21, h20, h⟩ := b1_e h
      refine v_callV (pc := 99) [.int 8] (some (.int x21)) M11 hX cv_L_55 (c_X10_searchOf (sub_cs hcs (Nat.le_of_ble_eq_true rfl) (Nat.le_of_ble_eq_true rfl)) M11 8 x21 h20) (hcs 0 (Nat.le_of_ble_eq_true rfl) (Nat.le_of_ble_eq_true rfl)) sh_0 rfl rfl rfl ⟨Nat.le_of_ble_eq_true rfl, Nat.le_of_ble_eq_true rfl⟩ (Nat.le_of_ble_eq_true rfl) dL_poll_99 ?_
      show VV X 21 ad cs M11 102 [(9, .int x19), (8, .int x17), (7, .int x15), (6, .int x13), (5, .int x10), (4, .int x8), (0, .ref (ad 0)), (2, .int x2), (3, .int x5)] [.int x21]
      refine v_istore (pc := 102) [(10, .int x21), (9, .int x19), (8, .int x17), (7, .int x15), (6, .int x13), (5, .int x10), (4, .int x8), (0, .ref (ad 0)), (2, .int x2), (3, .int x5)] hX dL_poll_102 (by decide) rfl ?_
      refine v_aload_n (pc := 104) 7 hX dL_poll_104 rfl ?_
      refine v_iconst (pc := 105) hX dL_poll_105 ic_0 ?_
      obtain ⟨x23, h22, h⟩ := b1_e h
      refine v_callV (pc := 106) [.int 0] (some (.int x23)) M11 hX cv_L_55 (c_X10_searchOf (sub_cs hcs (Nat.le_of_ble_eq_true rfl) (Nat.le_of_ble_eq_true rfl)) M11 0 x23 h22) (hcs 0 (Nat.le_of_ble_eq_true rfl) (Nat.le_of_ble_eq_true rfl)) sh_0 rfl rfl rfl ⟨Nat.le_of_ble_eq_true rfl, Nat.le_of_ble_eq_true rfl⟩ (Nat.le_of_ble_eq_true rfl) dL_poll_106 ?_
      show VV X 21 ad cs M11 109 [(10, .int x21), (9, .int x19), (8, .int x17), (7, .int x15), (6, .int x13), (5, .int x10), (4, .int x8), (0, .ref (ad 0)), (2, .int x2), (3, .int x5)] [.int x23]
      refine v_istore (pc := 109) [(11, .int x23), (10, .int x21), (9, .int x19), (8, .int x17), (7, .int x15), (6, .int x13), (5, .int x10), (4, .int x8), (0, .ref (ad 0)), (2, .int x2), (3, .int x5)] hX dL_poll_109 (by decide) rfl ?_
      refine v_aload_n (pc := 111) 8 hX dL_poll_111 rfl ?_
      refine v_iconst (pc := 112) hX dL_poll_112 ic_1 ?_
      obtain ⟨x25, h24, h⟩ := b1_e h
      refine v_callV (pc := 113) [.int 1] (some (.int x25)) M11 hX cv_L_55 (c_X10_searchOf (sub_cs hcs (Nat.le_of_ble_eq_true rfl) (Nat.le_of_ble_eq_true rfl)) M11 1 x25 h24) (hcs 0 (Nat.le_of_ble_eq_true rfl) (Nat.le_of_ble_eq_true rfl)) sh_0 rfl rfl rfl ⟨Nat.le_of_ble_eq_true rfl, Nat.le_of_ble_eq_true rfl⟩ (Nat.le_of_ble_eq_true rfl) dL_poll_113 ?_
      show VV X 21 ad cs M11 116 [(11, .int x23), (10, .int x21), (9, .int x19), (8, .int x17), (7, .int x15), (6, .int x13), (5, .int x10), (4, .int x8), (0, .ref (ad 0)), (2, .int x2), (3, .int x5)] [.int x25]
      refine v_istore (pc := 116) [(12, .int x25), (11, .int x23), (10, .int x21), (9, .int x19), (8, .int x17), (7, .int x15), (6, .int x13), (5, .int x10), (4, .int x8), (0, .ref (ad 0)), (2, .int x2), (3, .int x5)] hX dL_poll_116 (by decide) rfl ?_
      refine v_aload_n (pc := 118) 9 hX dL_poll_118 rfl ?_
      refine v_iconst (pc := 119) hX dL_poll_119 ic_2 ?_
      obtain ⟨x27, h26, h⟩ := b1_e h
      refine v_callV (pc := 120) [.int 2] (some (.int x27)) M11 hX cv_L_55 (c_X10_searchOf (sub_cs hcs (Nat.le_of_ble_eq_true rfl) (Nat.le_of_ble_eq_true rfl)) M11 2 x27 h26) (hcs 0 (Nat.le_of_ble_eq_true rfl) (Nat.le_of_ble_eq_true rfl)) sh_0 rfl rfl rfl ⟨Nat.le_of_ble_eq_true rfl, Nat.le_of_ble_eq_true rfl⟩ (Nat.le_of_ble_eq_true rfl) dL_poll_120 ?_
      show VV X 21 ad cs M11 123 [(12, .int x25), (11, .int x23), (10, .int x21), (9, .int x19), (8, .int x17), (7, .int x15), (6, .int x13), (5, .int x10), (4, .int x8), (0, .ref (ad 0)), (2, .int x2), (3, .int x5)] [.int x27]
      refine v_istore (pc := 123) [(13, .int x27), (12, .int x25), (11, .int x23), (10, .int x21), (9, .int x19), (8, .int x17), (7, .int x15), (6, .int x13), (5, .int x10), (4, .int x8), (0, .ref (ad 0)), (2, .int x2), (3, .int x5)] hX dL_poll_123 (by decide) rfl ?_
      refine v_iload (pc := 125) 7 hX dL_poll_125 rfl ?_
      obtain ⟨k28, ek28, h⟩ := bd_e h
      have K29 : ∀ (x30 : Int32), k28 x30 = some q → VV X 21 ad cs M11 142 [(0, .ref (ad 0)), (2, .int x2), (3, .int x5), (5, .int x10), (6, .int x13), (7, .int x15), (8, .int x17), (9, .int x19), (10, .int x21), (11, .int x23), (12, .int x25), (13, .int x27)] [.int x30] := by
        intro x30 h
        subst ek28
        refine v_istore (pc := 142) [(14, .int x30), (0, .ref (ad 0)), (2, .int x2), (3, .int x5), (5, .int x10), (6, .int x13), (7, .int x15), (8, .int x17), (9, .int x19), (10, .int x21), (11, .int x23), (12, .int x25), (13, .int x27)] hX dL_poll_142 (by decide) rfl ?_
        refine v_iload (pc := 144) 5 hX dL_poll_144 rfl ?_
        obtain ⟨k31, ek31, h⟩ := bd_e h
        have K32 : ∀ (x33 : Int32), k31 x33 = some q → VV X 21 ad cs M11 161 [(0, .ref (ad 0)), (2, .int x2), (3, .int x5), (5, .int x10), (6, .int x13), (7, .int x15), (8, .int x17), (9, .int x19), (10, .int x21), (11, .int x23), (12, .int x25), (13, .int x27), (14, .int x30)] [.int x33] := by
          intro x33 h
          subst ek31
          refine v_istore (pc := 161) [(15, .int x33), (0, .ref (ad 0)), (2, .int x2), (3, .int x5), (5, .int x10), (6, .int x13), (7, .int x15), (8, .int x17), (9, .int x19), (10, .int x21), (11, .int x23), (12, .int x25), (13, .int x27), (14, .int x30)] hX dL_poll_161 (by decide) rfl ?_
          refine v_iload (pc := 163) 5 hX dL_poll_163 rfl ?_
          obtain ⟨k34, ek34, h⟩ := bd_e h
          have K35 : ∀ (x36 : Int32), k34 x36 = some q → VV X 21 ad cs M11 180 [(0, .ref (ad 0)), (2, .int x2), (3, .int x5), (5, .int x10), (6, .int x13), (7, .int x15), (8, .int x17), (9, .int x19), (10, .int x21), (11, .int x23), (12, .int x25), (13, .int x27), (14, .int x30), (15, .int x33)] [.int x36] := by
            intro x36 h
            subst ek34
            refine v_istore (pc := 180) [(16, .int x36), (0, .ref (ad 0)), (2, .int x2), (3, .int x5), (5, .int x10), (6, .int x13), (7, .int x15), (8, .int x17), (9, .int x19), (10, .int x21), (11, .int x23), (12, .int x25), (13, .int x27), (14, .int x30), (15, .int x33)] hX dL_poll_180 (by decide) rfl ?_
            refine v_iload (pc := 182) 5 hX dL_poll_182 rfl ?_
            obtain ⟨k37, ek37, h⟩ := bd_e h
            have K38 : ∀ (x39 : Int32), k37 x39 = some q → VV X 21 ad cs M11 198 [(0, .ref (ad 0)), (2, .int x2), (3, .int x5), (5, .int x10), (6, .int x13), (7, .int x15), (8, .int x17), (9, .int x19), (10, .int x21), (11, .int x23), (12, .int x25), (13, .int x27), (14, .int x30), (15, .int x33), (16, .int x36)] [.int x39] := by
              intro x39 h
              subst ek37
              refine v_istore (pc := 198) [(17, .int x39), (0, .ref (ad 0)), (2, .int x2), (3, .int x5), (5, .int x10), (6, .int x13), (7, .int x15), (8, .int x17), (9, .int x19), (10, .int x21), (11, .int x23), (12, .int x25), (13, .int x27), (14, .int x30), (15, .int x33), (16, .int x36)] hX dL_poll_198 (by decide) rfl ?_
              refine v_aload_n (pc := 200) 1 hX dL_poll_200 rfl ?_
              obtain ⟨y41, h40, h⟩ := b1_e h
              refine v_callS (pc := 201) [.ref (ad 0)] (some (.long y41)) M11 hX cv_L_73 (c_L_here (sub_cs hcs (Nat.le_of_ble_eq_true rfl) (Nat.le_of_ble_eq_true rfl)) M11 y41 h40) rfl rfl ⟨Nat.le_of_ble_eq_true rfl, Nat.le_of_ble_eq_true rfl⟩ (Nat.le_of_ble_eq_true rfl) dL_poll_201 ?_
              show VV X 21 ad cs M11 204 [(17, .int x39), (0, .ref (ad 0)), (2, .int x2), (3, .int x5), (5, .int x10), (6, .int x13), (7, .int x15), (8, .int x17), (9, .int x19), (10, .int x21), (11, .int x23), (12, .int x25), (13, .int x27), (14, .int x30), (15, .int x33), (16, .int x36)] [.long y41]
              refine v_lstore (pc := 204) [(18, .long y41), (17, .int x39), (0, .ref (ad 0)), (2, .int x2), (3, .int x5), (5, .int x10), (6, .int x13), (7, .int x15), (8, .int x17), (9, .int x19), (10, .int x21), (11, .int x23), (12, .int x25), (13, .int x27), (14, .int x30), (15, .int x33), (16, .int x36)] hX dL_poll_204 (by decide) rfl ?_
              refine v_iload (pc := 206) 5 hX dL_poll_206 rfl ?_
              refine v_iload (pc := 208) 6 hX dL_poll_208 rfl ?_
              obtain ⟨k42, ek42, h⟩ := bd_e h
              have K43 : ∀ (x44 : Int32), k42 x44 = some q → VV X 21 ad cs M11 218 [(0, .ref (ad 0)), (2, .int x2), (3, .int x5), (6, .int x13), (7, .int x15), (8, .int x17), (9, .int x19), (10, .int x21), (11, .int x23), (12, .int x25), (13, .int x27), (14, .int x30), (15, .int x33), (16, .int x36), (17, .int x39), (18, .long y41)] [.int x44, .int x10] := by
                intro x44 h
                subst ek42
                refine v_icmp_ne (pc := 218) (tgt := 288) hX dL_poll_218 (by decide) (fun h45 => ?_) (fun h45 => ?_)
                · have h := if_f h h45
                  refine v_iconst (pc := 288) hX dL_poll_288 ic_0 ?_
                  obtain rfl := Option.some.inj h
                  exact v_zret (pc := 289) hX hR (Or.inl rfl) dL_poll_289
                · have h := if_t h h45
                  refine v_aload_n (pc := 221) 0 hX dL_poll_221 rfl ?_
                  obtain ⟨x47, M48, h46, h⟩ := b2_e h
                  refine v_callV (pc := 222) [] (some (.int x47)) M48 hX cv_L_95 (c_X10_poll (sub_cs hcs (Nat.le_of_ble_eq_true rfl) (Nat.le_of_ble_eq_true rfl)) M11 (x47, M48) h46) (hcs 0 (Nat.le_of_ble_eq_true rfl) (Nat.le_of_ble_eq_true rfl)) sh_0 rfl rfl rfl ⟨Nat.le_of_ble_eq_true rfl, Nat.le_of_ble_eq_true rfl⟩ (Nat.le_of_ble_eq_true rfl) dL_poll_222 ?_
                  show VV X 21 ad cs M48 225 [(0, .ref (ad 0)), (2, .int x2), (3, .int x5), (6, .int x13), (7, .int x15), (8, .int x17), (9, .int x19), (10, .int x21), (11, .int x23), (12, .int x25), (13, .int x27), (14, .int x30), (15, .int x33), (16, .int x36), (17, .int x39), (18, .long y41)] [.int x47]
                  refine v_iload (pc := 225) 3 hX dL_poll_225 rfl ?_
                  refine v_icmp_ne (pc := 227) (tgt := 288) hX dL_poll_227 (by decide) (fun h49 => ?_) (fun h49 => ?_)
                  · have h := if_f h h49
                    refine v_iconst (pc := 288) hX dL_poll_288 ic_0 ?_
                    obtain rfl := Option.some.inj h
                    exact v_zret (pc := 289) hX hR (Or.inl rfl) dL_poll_289
                  · have h := if_t h h49
                    refine v_aload_n (pc := 230) 0 hX dL_poll_230 rfl ?_
                    refine v_iconst (pc := 231) hX dL_poll_231 ic_4 ?_
                    obtain ⟨x51, h50, h⟩ := b1_e h
                    refine v_callV (pc := 232) [.int 4] (some (.int x51)) M48 hX cv_L_55 (c_X10_searchOf (sub_cs hcs (Nat.le_of_ble_eq_true rfl) (Nat.le_of_ble_eq_true rfl)) M48 4 x51 h50) (hcs 0 (Nat.le_of_ble_eq_true rfl) (Nat.le_of_ble_eq_true rfl)) sh_0 rfl rfl rfl ⟨Nat.le_of_ble_eq_true rfl, Nat.le_of_ble_eq_true rfl⟩ (Nat.le_of_ble_eq_true rfl) dL_poll_232 ?_
                    show VV X 21 ad cs M48 235 [(0, .ref (ad 0)), (2, .int x2), (3, .int x5), (6, .int x13), (7, .int x15), (8, .int x17), (9, .int x19), (10, .int x21), (11, .int x23), (12, .int x25), (13, .int x27), (14, .int x30), (15, .int x33), (16, .int x36), (17, .int x39), (18, .long y41)] [.int x51]
                    refine v_iload (pc := 235) 4 hX dL_poll_235 rfl ?_
                    refine v_iconst (pc := 237) hX dL_poll_237 ic_1 ?_
                    refine v_iadd (pc := 238) hX dL_poll_238 ?_
                    refine v_icmp_ne (pc := 239) (tgt := 288) hX dL_poll_239 (by decide) (fun h52 => ?_) (fun h52 => ?_)
                    · have h := if_f h h52
                      refine v_iconst (pc := 288) hX dL_poll_288 ic_0 ?_
                      obtain rfl := Option.some.inj h
                      exact v_zret (pc := 289) hX hR (Or.inl rfl) dL_poll_289
                    · have h := if_t h h52
                      refine v_aload_n (pc := 242) 0 hX dL_poll_242 rfl ?_
                      refine v_bipush (pc := 243) hX dL_poll_243 bp_6 ?_
                      obtain ⟨x54, h53, h⟩ := b1_e h
                      refine v_callV (pc := 245) [.int 6] (some (.int x54)) M48 hX cv_L_55 (c_X10_searchOf (sub_cs hcs (Nat.le_of_ble_eq_true rfl) (Nat.le_of_ble_eq_true rfl)) M48 6 x54 h53) (hcs 0 (Nat.le_of_ble_eq_true rfl) (Nat.le_of_ble_eq_true rfl)) sh_0 rfl rfl rfl ⟨Nat.le_of_ble_eq_true rfl, Nat.le_of_ble_eq_true rfl⟩ (Nat.le_of_ble_eq_true rfl) dL_poll_245 ?_
                      show VV X 21 ad cs M48 248 [(0, .ref (ad 0)), (2, .int x2), (3, .int x5), (6, .int x13), (7, .int x15), (8, .int x17), (9, .int x19), (10, .int x21), (11, .int x23), (12, .int x25), (13, .int x27), (14, .int x30), (15, .int x33), (16, .int x36), (17, .int x39), (18, .long y41)] [.int x54]
                      refine v_iload (pc := 248) 6 hX dL_poll_248 rfl ?_
                      refine v_iload_n (pc := 250) 1 hX dL_poll_250 rfl ?_
                      refine v_bipush (pc := 251) hX dL_poll_251 bp_100 ?_
                      refine v_idiv (pc := 253) hX dL_poll_253 (by decide) ?_
                      refine v_iadd (pc := 254) hX dL_poll_254 ?_
                      refine v_icmp_ne (pc := 255) (tgt := 288) hX dL_poll_255 (by decide) (fun h55 => ?_) (fun h55 => ?_)
                      · have h := if_f h h55
                        refine v_iconst (pc := 288) hX dL_poll_288 ic_0 ?_
                        obtain rfl := Option.some.inj h
                        exact v_zret (pc := 289) hX hR (Or.inl rfl) dL_poll_289
                      · have h := if_t h h55
                        refine v_aload_n (pc := 258) 0 hX dL_poll_258 rfl ?_
                        refine v_iconst (pc := 259) hX dL_poll_259 ic_0 ?_
                        obtain ⟨x57, h56, h⟩ := b1_e h
                        refine v_callV (pc := 260) [.int 0] (some (.int x57)) M48 hX cv_L_55 (c_X10_searchOf (sub_cs hcs (Nat.le_of_ble_eq_true rfl) (Nat.le_of_ble_eq_true rfl)) M48 0 x57 h56) (hcs 0 (Nat.le_of_ble_eq_true rfl) (Nat.le_of_ble_eq_true rfl)) sh_0 rfl rfl rfl ⟨Nat.le_of_ble_eq_true rfl, Nat.le_of_ble_eq_true rfl⟩ (Nat.le_of_ble_eq_true rfl) dL_poll_260 ?_
                        show VV X 21 ad cs M48 263 [(0, .ref (ad 0)), (2, .int x2), (3, .int x5), (6, .int x13), (7, .int x15), (8, .int x17), (9, .int x19), (10, .int x21), (11, .int x23), (12, .int x25), (13, .int x27), (14, .int x30), (15, .int x33), (16, .int x36), (17, .int x39), (18, .long y41)] [.int x57]
                        refine v_iload (pc := 263) 11 hX dL_poll_263 rfl ?_
                        refine v_icmp_ne (pc := 265) (tgt := 288) hX dL_poll_265 (by decide) (fun h58 => ?_) (fun h58 => ?_)
                        · have h := if_f h h58
                          refine v_iconst (pc := 288) hX dL_poll_288 ic_0 ?_
                          obtain rfl := Option.some.inj h
                          exact v_zret (pc := 289) hX hR (Or.inl rfl) dL_poll_289
                        · have h := if_t h h58
                          refine v_aload_n (pc := 268) 0 hX dL_poll_268 rfl ?_
                          refine v_iconst (pc := 269) hX dL_poll_269 ic_1 ?_
                          obtain ⟨x60, h59, h⟩ := b1_e h
                          refine v_callV (pc := 270) [.int 1] (some (.int x60)) M48 hX cv_L_55 (c_X10_searchOf (sub_cs hcs (Nat.le_of_ble_eq_true rfl) (Nat.le_of_ble_eq_true rfl)) M48 1 x60 h59) (hcs 0 (Nat.le_of_ble_eq_true rfl) (Nat.le_of_ble_eq_true rfl)) sh_0 rfl rfl rfl ⟨Nat.le_of_ble_eq_true rfl, Nat.le_of_ble_eq_true rfl⟩ (Nat.le_of_ble_eq_true rfl) dL_poll_270 ?_
                          show VV X 21 ad cs M48 273 [(0, .ref (ad 0)), (2, .int x2), (3, .int x5), (6, .int x13), (7, .int x15), (8, .int x17), (9, .int x19), (10, .int x21), (11, .int x23), (12, .int x25), (13, .int x27), (14, .int x30), (15, .int x33), (16, .int x36), (17, .int x39), (18, .long y41)] [.int x60]
                          refine v_iload (pc := 273) 12 hX dL_poll_273 rfl ?_
                          refine v_icmp_ne (pc := 275) (tgt := 288) hX dL_poll_275 (by decide) (fun h61 => ?_) (fun h61 => ?_)
                          · have h := if_f h h61
                            refine v_iconst (pc := 288) hX dL_poll_288 ic_0 ?_
                            obtain rfl := Option.some.inj h
                            exact v_zret (pc := 289) hX hR (Or.inl rfl) dL_poll_289
                          · have h := if_t h h61
                            refine v_aload_n (pc := 278) 0 hX dL_poll_278 rfl ?_
                            refine v_iconst (pc := 279) hX dL_poll_279 ic_2 ?_
                            obtain ⟨x63, h62, h⟩ := b1_e h
                            refine v_callV (pc := 280) [.int 2] (some (.int x63)) M48 hX cv_L_55 (c_X10_searchOf (sub_cs hcs (Nat.le_of_ble_eq_true rfl) (Nat.le_of_ble_eq_true rfl)) M48 2 x63 h62) (hcs 0 (Nat.le_of_ble_eq_true rfl) (Nat.le_of_ble_eq_true rfl)) sh_0 rfl rfl rfl ⟨Nat.le_of_ble_eq_true rfl, Nat.le_of_ble_eq_true rfl⟩ (Nat.le_of_ble_eq_true rfl) dL_poll_280 ?_
                            show VV X 21 ad cs M48 283 [(0, .ref (ad 0)), (2, .int x2), (3, .int x5), (6, .int x13), (7, .int x15), (8, .int x17), (9, .int x19), (10, .int x21), (11, .int x23), (12, .int x25), (13, .int x27), (14, .int x30), (15, .int x33), (16, .int x36), (17, .int x39), (18, .long y41)] [.int x63]
                            refine v_iload (pc := 283) 13 hX dL_poll_283 rfl ?_
                            refine v_icmp_eq (pc := 285) (tgt := 290) hX dL_poll_285 (by decide) (fun h64 => ?_) (fun h64 => ?_)
                            · have h := if_t h h64
                              refine v_iload (pc := 290) 3 hX dL_poll_290 rfl ?_
                              refine v_if_ge (pc := 292) (tgt := 371) hX dL_poll_292 (by decide) (fun h65 => ?_) (fun h65 => ?_)
                              · have h := if_t h h65
                                refine v_aload_n (pc := 371) 0 hX dL_poll_371 rfl ?_
                                refine v_iconst (pc := 372) hX dL_poll_372 ic_3 ?_
                                obtain ⟨x67, h66, h⟩ := b1_e h
                                refine v_callV (pc := 373) [.int 3] (some (.int x67)) M48 hX cv_L_55 (c_X10_searchOf (sub_cs hcs (Nat.le_of_ble_eq_true rfl) (Nat.le_of_ble_eq_true rfl)) M48 3 x67 h66) (hcs 0 (Nat.le_of_ble_eq_true rfl) (Nat.le_of_ble_eq_true rfl)) sh_0 rfl rfl rfl ⟨Nat.le_of_ble_eq_true rfl, Nat.le_of_ble_eq_true rfl⟩ (Nat.le_of_ble_eq_true rfl) dL_poll_373 ?_
                                show VV X 21 ad cs M48 376 [(0, .ref (ad 0)), (2, .int x2), (3, .int x5), (6, .int x13), (7, .int x15), (8, .int x17), (9, .int x19), (10, .int x21), (11, .int x23), (12, .int x25), (13, .int x27), (14, .int x30), (15, .int x33), (16, .int x36), (17, .int x39), (18, .long y41)] [.int x67]
                                refine v_iload_n (pc := 376) 2 hX dL_poll_376 rfl ?_
                                refine v_bipush (pc := 377) hX dL_poll_377 bp_16 ?_
                                obtain ⟨k68, ek68, h⟩ := bd_e h
                                have K69 : ∀ (x70 : Int32), k68 x70 = some q → VV X 21 ad cs M48 390 [(0, .ref (ad 0)), (6, .int x13), (8, .int x17), (10, .int x21), (11, .int x23), (12, .int x25), (13, .int x27), (17, .int x39), (18, .long y41)] [.int x70, .int x67] := by
                                  intro x70 h
                                  subst ek68
                                  obtain ⟨k71, ek71, h⟩ := bd_e h
                                  have K72 : ∀ (x73 : Int32), k71 x73 = some q → VV X 21 ad cs M48 465 [(0, .ref (ad 0)), (6, .int x13), (11, .int x23), (12, .int x25), (13, .int x27), (17, .int x39)] [.int x73] := by
                                    intro x73 h
                                    subst ek71
                                    refine v_istore (pc := 465) [(20, .int x73), (0, .ref (ad 0)), (6, .int x13), (11, .int x23), (12, .int x25), (13, .int x27), (17, .int x39)] hX dL_poll_465 (by decide) rfl ?_
                                    refine v_iload (pc := 467) 0 hX dL_poll_467 rfl ?_
                                    refine v_if_eq (pc := 469) (tgt := 541) hX dL_poll_469 (by decide) (fun h74 => ?_) (fun h74 => ?_)
                                    · have h := if_t h h74
                                      refine v_iconst (pc := 541) hX dL_poll_541 ic_0 ?_
                                      obtain rfl := Option.some.inj h
                                      exact v_zret (pc := 542) hX hR (Or.inl rfl) dL_poll_542
                                    · have h := if_f h h74
                                      refine v_aload_n (pc := 472) 1 hX dL_poll_472 rfl ?_
                                      refine v_iload (pc := 473) 2 hX dL_poll_473 rfl ?_
                                      refine v_iconst (pc := 475) hX dL_poll_475 ic_3 ?_
                                      obtain ⟨x76, h75, h⟩ := b1_e h
                                      refine v_callV (pc := 476) [.int x13, .int 3] (some (.int x76)) M48 hX cv_L_58 (c_X10_directionOf (sub_cs hcs (Nat.le_of_ble_eq_true rfl) (Nat.le_of_ble_eq_true rfl)) M48 x13 3 x76 h75) (hcs 0 (Nat.le_of_ble_eq_true rfl) (Nat.le_of_ble_eq_true rfl)) sh_0 rfl rfl rfl ⟨Nat.le_of_ble_eq_true rfl, Nat.le_of_ble_eq_true rfl⟩ (Nat.le_of_ble_eq_true rfl) dL_poll_476 ?_
                                      show VV X 21 ad cs M48 479 [(20, .int x73), (0, .ref (ad 0)), (6, .int x13), (11, .int x23), (12, .int x25), (13, .int x27), (17, .int x39)] [.int x76]
                                      refine v_iload (pc := 479) 6 hX dL_poll_479 rfl ?_
                                      refine v_iconst (pc := 481) hX dL_poll_481 ic_1 ?_
                                      refine v_iadd (pc := 482) hX dL_poll_482 ?_
                                      refine v_icmp_ne (pc := 483) (tgt := 541) hX dL_poll_483 (by decide) (fun h77 => ?_) (fun h77 => ?_)
                                      · have h := if_f h h77
                                        refine v_iconst (pc := 541) hX dL_poll_541 ic_0 ?_
                                        obtain rfl := Option.some.inj h
                                        exact v_zret (pc := 542) hX hR (Or.inl rfl) dL_poll_542
                                      · have h := if_t h h77
                                        refine v_aload_n (pc := 486) 1 hX dL_poll_486 rfl ?_
                                        refine v_iconst (pc := 487) hX dL_poll_487 ic_0 ?_
                                        refine v_iconst (pc := 488) hX dL_poll_488 ic_0 ?_
                                        obtain ⟨x79, h78, h⟩ := b1_e h
                                        refine v_callV (pc := 489) [.int 0, .int 0] (some (.int x79)) M48 hX cv_L_98 (c_X10_leftAt (sub_cs hcs (Nat.le_of_ble_eq_true rfl) (Nat.le_of_ble_eq_true rfl)) M48 0 0 x79 h78) (hcs 0 (Nat.le_of_ble_eq_true rfl) (Nat.le_of_ble_eq_true rfl)) sh_0 rfl rfl rfl ⟨Nat.le_of_ble_eq_true rfl, Nat.le_of_ble_eq_true rfl⟩ (Nat.le_of_ble_eq_true rfl) dL_poll_489 ?_
                                        show VV X 21 ad cs M48 492 [(20, .int x73), (0, .ref (ad 0)), (6, .int x13), (11, .int x23), (12, .int x25), (13, .int x27), (17, .int x39)] [.int x79]
                                        refine v_iload (pc := 492) 3 hX dL_poll_492 rfl ?_
                                        refine v_icmp_ne (pc := 494) (tgt := 541) hX dL_poll_494 (by decide) (fun h80 => ?_) (fun h80 => ?_)
                                        · have h := if_f h h80
                                          refine v_iconst (pc := 541) hX dL_poll_541 ic_0 ?_
                                          obtain rfl := Option.some.inj h
                                          exact v_zret (pc := 542) hX hR (Or.inl rfl) dL_poll_542
                                        · have h := if_t h h80
                                          refine v_aload_n (pc := 497) 1 hX dL_poll_497 rfl ?_
                                          refine v_iconst (pc := 498) hX dL_poll_498 ic_0 ?_
                                          obtain ⟨x82, h81, h⟩ := b1_e h
                                          refine v_callV (pc := 499) [.int 0] (some (.int x82)) M48 hX cv_L_16 (c_X10_count (sub_cs hcs (Nat.le_of_ble_eq_true rfl) (Nat.le_of_ble_eq_true rfl)) M48 0 x82 h81) (hcs 0 (Nat.le_of_ble_eq_true rfl) (Nat.le_of_ble_eq_true rfl)) sh_0 rfl rfl rfl ⟨Nat.le_of_ble_eq_true rfl, Nat.le_of_ble_eq_true rfl⟩ (Nat.le_of_ble_eq_true rfl) dL_poll_499 ?_
                                          show VV X 21 ad cs M48 502 [(20, .int x73), (0, .ref (ad 0)), (6, .int x13), (11, .int x23), (12, .int x25), (13, .int x27), (17, .int x39)] [.int x82]
                                          refine v_iconst (pc := 502) hX dL_poll_502 ic_2 ?_
                                          obtain ⟨k83, ek83, h⟩ := bd_e h
                                          have K84 : ∀ (_ : Unit), k83 () = some q → VV X 21 ad cs M48 517 [(0, .ref (ad 0)), (13, .int x27)] [] := by
                                            intro _ h
                                            subst ek83
                                            refine v_aload_n (pc := 517) 0 hX dL_poll_517 rfl ?_
                                            refine v_iconst (pc := 518) hX dL_poll_518 ic_0 ?_
                                            obtain ⟨x86, h85, h⟩ := b1_e h
                                            refine v_callV (pc := 519) [.int 0] (some (.int x86)) M48 hX cv_L_16 (c_X10_count (sub_cs hcs (Nat.le_of_ble_eq_true rfl) (Nat.le_of_ble_eq_true rfl)) M48 0 x86 h85) (hcs 0 (Nat.le_of_ble_eq_true rfl) (Nat.le_of_ble_eq_true rfl)) sh_0 rfl rfl rfl ⟨Nat.le_of_ble_eq_true rfl, Nat.le_of_ble_eq_true rfl⟩ (Nat.le_of_ble_eq_true rfl) dL_poll_519 ?_
                                            show VV X 21 ad cs M48 522 [(0, .ref (ad 0)), (13, .int x27)] [.int x86]
                                            refine v_iconst (pc := 522) hX dL_poll_522 ic_3 ?_
                                            refine v_icmp_lt (pc := 523) (tgt := 537) hX dL_poll_523 (by decide) (fun h87 => ?_) (fun h87 => ?_)
                                            · have h := if_t h h87
                                              refine v_iconst (pc := 537) hX dL_poll_537 ic_1 ?_
                                              refine v_goto (pc := 538) (tgt := 542) hX dL_poll_538 (by decide) ?_
                                              obtain rfl := Option.some.inj h
                                              exact v_zret (pc := 542) hX hR (Or.inr rfl) dL_poll_542
                                            · have h := if_f h h87
                                              refine v_aload_n (pc := 526) 0 hX dL_poll_526 rfl ?_
                                              refine v_iconst (pc := 527) hX dL_poll_527 ic_0 ?_
                                              refine v_iconst (pc := 528) hX dL_poll_528 ic_2 ?_
                                              obtain ⟨x89, h88, h⟩ := b1_e h
                                              refine v_callV (pc := 529) [.int 0, .int 2] (some (.int x89)) M48 hX cv_L_98 (c_X10_leftAt (sub_cs hcs (Nat.le_of_ble_eq_true rfl) (Nat.le_of_ble_eq_true rfl)) M48 0 2 x89 h88) (hcs 0 (Nat.le_of_ble_eq_true rfl) (Nat.le_of_ble_eq_true rfl)) sh_0 rfl rfl rfl ⟨Nat.le_of_ble_eq_true rfl, Nat.le_of_ble_eq_true rfl⟩ (Nat.le_of_ble_eq_true rfl) dL_poll_529 ?_
                                              show VV X 21 ad cs M48 532 [(0, .ref (ad 0)), (13, .int x27)] [.int x89]
                                              refine v_iload (pc := 532) 1 hX dL_poll_532 rfl ?_
                                              refine v_icmp_ne (pc := 534) (tgt := 541) hX dL_poll_534 (by decide) (fun h90 => ?_) (fun h90 => ?_)
                                              · have h := if_f h h90
                                                refine v_iconst (pc := 541) hX dL_poll_541 ic_0 ?_
                                                obtain rfl := Option.some.inj h
                                                exact v_zret (pc := 542) hX hR (Or.inl rfl) dL_poll_542
                                              · have h := if_t h h90
                                                refine v_iconst (pc := 537) hX dL_poll_537 ic_1 ?_
                                                refine v_goto (pc := 538) (tgt := 542) hX dL_poll_538 (by decide) ?_
                                                obtain rfl := Option.some.inj h
                                                exact v_zret (pc := 542) hX hR (Or.inr rfl) dL_poll_542
                                          refine v_icmp_lt (pc := 503) (tgt := 517) hX dL_poll_503 (by decide) (fun h91 => ?_) (fun h91 => ?_)
                                          · have h := if_t h h91
                                            exact v_sub [1, 5] rfl (K84 () h)
                                          · have h := if_f h h91
                                            refine v_aload_n (pc := 506) 1 hX dL_poll_506 rfl ?_
                                            refine v_iconst (pc := 507) hX dL_poll_507 ic_0 ?_
                                            refine v_iconst (pc := 508) hX dL_poll_508 ic_1 ?_
                                            obtain ⟨x93, h92, h⟩ := b1_e h
                                            refine v_callV (pc := 509) [.int 0, .int 1] (some (.int x93)) M48 hX cv_L_98 (c_X10_leftAt (sub_cs hcs (Nat.le_of_ble_eq_true rfl) (Nat.le_of_ble_eq_true rfl)) M48 0 1 x93 h92) (hcs 0 (Nat.le_of_ble_eq_true rfl) (Nat.le_of_ble_eq_true rfl)) sh_0 rfl rfl rfl ⟨Nat.le_of_ble_eq_true rfl, Nat.le_of_ble_eq_true rfl⟩ (Nat.le_of_ble_eq_true rfl) dL_poll_509 ?_
                                            show VV X 21 ad cs M48 512 [(20, .int x73), (0, .ref (ad 0)), (6, .int x13), (11, .int x23), (12, .int x25), (13, .int x27), (17, .int x39)] [.int x93]
                                            refine v_iload (pc := 512) 4 hX dL_poll_512 rfl ?_
                                            refine v_icmp_ne (pc := 514) (tgt := 541) hX dL_poll_514 (by decide) (fun h94 => ?_) (fun h94 => ?_)
                                            · have h := if_f h h94
                                              refine v_iconst (pc := 541) hX dL_poll_541 ic_0 ?_
                                              obtain rfl := Option.some.inj h
                                              exact v_zret (pc := 542) hX hR (Or.inl rfl) dL_poll_542
                                            · have h := if_t h h94
                                              exact v_sub [1, 5] rfl (K84 () h)
                                  obtain ⟨k95, ek95, h⟩ := bd_e h
                                  have K96 : ∀ (_ : Unit), k95 () = some q → VV X 21 ad cs M48 464 [(0, .ref (ad 0)), (6, .int x13), (11, .int x23), (12, .int x25), (13, .int x27), (17, .int x39)] [] := by
                                    intro _ h
                                    subst ek95
                                    refine v_iconst (pc := 464) hX dL_poll_464 ic_0 ?_
                                    exact v_sub [0, 1, 2, 3, 4, 5] rfl (K72 0 h)
                                  refine v_icmp_ne (pc := 390) (tgt := 464) hX dL_poll_390 (by decide) (fun h97 => ?_) (fun h97 => ?_)
                                  · have h := if_f h h97
                                    exact v_sub [0, 1, 4, 5, 6, 7] rfl (K96 () h)
                                  · have h := if_t h h97
                                    refine v_aload_n (pc := 393) 0 hX dL_poll_393 rfl ?_
                                    refine v_iconst (pc := 394) hX dL_poll_394 ic_5 ?_
                                    obtain ⟨x99, h98, h⟩ := b1_e h
                                    refine v_callV (pc := 395) [.int 5] (some (.int x99)) M48 hX cv_L_55 (c_X10_searchOf (sub_cs hcs (Nat.le_of_ble_eq_true rfl) (Nat.le_of_ble_eq_true rfl)) M48 5 x99 h98) (hcs 0 (Nat.le_of_ble_eq_true rfl) (Nat.le_of_ble_eq_true rfl)) sh_0 rfl rfl rfl ⟨Nat.le_of_ble_eq_true rfl, Nat.le_of_ble_eq_true rfl⟩ (Nat.le_of_ble_eq_true rfl) dL_poll_395 ?_
                                    show VV X 21 ad cs M48 398 [(0, .ref (ad 0)), (6, .int x13), (8, .int x17), (10, .int x21), (11, .int x23), (12, .int x25), (13, .int x27), (17, .int x39), (18, .long y41)] [.int x99]
                                    refine v_iload (pc := 398) 2 hX dL_poll_398 rfl ?_
                                    refine v_iconst (pc := 400) hX dL_poll_400 ic_1 ?_
                                    refine v_iadd (pc := 401) hX dL_poll_401 ?_
                                    refine v_icmp_ne (pc := 402) (tgt := 464) hX dL_poll_402 (by decide) (fun h100 => ?_) (fun h100 => ?_)
                                    · have h := if_f h h100
                                      exact v_sub [0, 1, 4, 5, 6, 7] rfl (K96 () h)
                                    · have h := if_t h h100
                                      refine v_aload_n (pc := 405) 0 hX dL_poll_405 rfl ?_
                                      refine v_bipush (pc := 406) hX dL_poll_406 bp_7 ?_
                                      obtain ⟨x102, h101, h⟩ := b1_e h
                                      refine v_callV (pc := 408) [.int 7] (some (.int x102)) M48 hX cv_L_55 (c_X10_searchOf (sub_cs hcs (Nat.le_of_ble_eq_true rfl) (Nat.le_of_ble_eq_true rfl)) M48 7 x102 h101) (hcs 0 (Nat.le_of_ble_eq_true rfl) (Nat.le_of_ble_eq_true rfl)) sh_0 rfl rfl rfl ⟨Nat.le_of_ble_eq_true rfl, Nat.le_of_ble_eq_true rfl⟩ (Nat.le_of_ble_eq_true rfl) dL_poll_408 ?_
                                      show VV X 21 ad cs M48 411 [(0, .ref (ad 0)), (6, .int x13), (8, .int x17), (10, .int x21), (11, .int x23), (12, .int x25), (13, .int x27), (17, .int x39), (18, .long y41)] [.int x102]
                                      refine v_iload (pc := 411) 1 hX dL_poll_411 rfl ?_
                                      refine v_icmp_ne (pc := 413) (tgt := 464) hX dL_poll_413 (by decide) (fun h103 => ?_) (fun h103 => ?_)
                                      · have h := if_f h h103
                                        exact v_sub [0, 1, 4, 5, 6, 7] rfl (K96 () h)
                                      · have h := if_t h h103
                                        refine v_aload_n (pc := 416) 0 hX dL_poll_416 rfl ?_
                                        refine v_bipush (pc := 417) hX dL_poll_417 bp_8 ?_
                                        obtain ⟨x105, h104, h⟩ := b1_e h
                                        refine v_callV (pc := 419) [.int 8] (some (.int x105)) M48 hX cv_L_55 (c_X10_searchOf (sub_cs hcs (Nat.le_of_ble_eq_true rfl) (Nat.le_of_ble_eq_true rfl)) M48 8 x105 h104) (hcs 0 (Nat.le_of_ble_eq_true rfl) (Nat.le_of_ble_eq_true rfl)) sh_0 rfl rfl rfl ⟨Nat.le_of_ble_eq_true rfl, Nat.le_of_ble_eq_true rfl⟩ (Nat.le_of_ble_eq_true rfl) dL_poll_419 ?_
                                        show VV X 21 ad cs M48 422 [(0, .ref (ad 0)), (6, .int x13), (8, .int x17), (10, .int x21), (11, .int x23), (12, .int x25), (13, .int x27), (17, .int x39), (18, .long y41)] [.int x105]
                                        refine v_iload (pc := 422) 3 hX dL_poll_422 rfl ?_
                                        refine v_bipush (pc := 424) hX dL_poll_424 bp_6 ?_
                                        obtain ⟨k106, ek106, h⟩ := bd_e h
                                        have K107 : ∀ (x108 : Int32), k106 x108 = some q → VV X 21 ad cs M48 438 [(0, .ref (ad 0)), (6, .int x13), (11, .int x23), (12, .int x25), (13, .int x27), (17, .int x39), (18, .long y41)] [.int x108, .int x105] := by
                                          intro x108 h
                                          subst ek106
                                          refine v_icmp_ne (pc := 438) (tgt := 464) hX dL_poll_438 (by decide) (fun h109 => ?_) (fun h109 => ?_)
                                          · have h := if_f h h109
                                            exact v_sub [0, 1, 2, 3, 4, 5] rfl (K96 () h)
                                          · have h := if_t h h109
                                            refine v_aload_n (pc := 441) 0 hX dL_poll_441 rfl ?_
                                            refine v_bipush (pc := 442) hX dL_poll_442 bp_9 ?_
                                            obtain ⟨x111, h110, h⟩ := b1_e h
                                            refine v_callV (pc := 444) [.int 9] (some (.int x111)) M48 hX cv_L_55 (c_X10_searchOf (sub_cs hcs (Nat.le_of_ble_eq_true rfl) (Nat.le_of_ble_eq_true rfl)) M48 9 x111 h110) (hcs 0 (Nat.le_of_ble_eq_true rfl) (Nat.le_of_ble_eq_true rfl)) sh_0 rfl rfl rfl ⟨Nat.le_of_ble_eq_true rfl, Nat.le_of_ble_eq_true rfl⟩ (Nat.le_of_ble_eq_true rfl) dL_poll_444 ?_
                                            show VV X 21 ad cs M48 447 [(0, .ref (ad 0)), (6, .int x13), (11, .int x23), (12, .int x25), (13, .int x27), (17, .int x39), (18, .long y41)] [.int x111]
                                            refine v_if_ne (pc := 447) (tgt := 464) hX dL_poll_447 (by decide) (fun h112 => ?_) (fun h112 => ?_)
                                            · have h := if_f h h112
                                              exact v_sub [0, 1, 2, 3, 4, 5] rfl (K96 () h)
                                            · have h := if_t h h112
                                              refine v_aload_n (pc := 450) 0 hX dL_poll_450 rfl ?_
                                              obtain ⟨y114, h113, h⟩ := b1_e h
                                              refine v_callS (pc := 451) [.ref (ad 0)] (some (.long y114)) M48 hX cv_L_73 (c_L_here (sub_cs hcs (Nat.le_of_ble_eq_true rfl) (Nat.le_of_ble_eq_true rfl)) M48 y114 h113) rfl rfl ⟨Nat.le_of_ble_eq_true rfl, Nat.le_of_ble_eq_true rfl⟩ (Nat.le_of_ble_eq_true rfl) dL_poll_451 ?_
                                              show VV X 21 ad cs M48 454 [(0, .ref (ad 0)), (6, .int x13), (11, .int x23), (12, .int x25), (13, .int x27), (17, .int x39), (18, .long y41)] [.long y114]
                                              refine v_lload (pc := 454) 6 hX dL_poll_454 rfl ?_
                                              refine v_lcmp (pc := 456) hX dL_poll_456 ?_
                                              refine v_if_ge (pc := 457) (tgt := 464) hX dL_poll_457 (by decide) (fun h115 => ?_) (fun h115 => ?_)
                                              · have h := if_t h h115
                                                exact v_sub [0, 1, 2, 3, 4, 5] rfl (K96 () h)
                                              · have h := if_f h h115
                                                refine v_iconst (pc := 460) hX dL_poll_460 ic_1 ?_
                                                refine v_goto (pc := 461) (tgt := 465) hX dL_poll_461 (by decide) ?_
                                                exact v_sub [0, 1, 2, 3, 4, 5] rfl (K72 1 h)
                                        refine v_icmp_ge (pc := 426) (tgt := 436) hX dL_poll_426 (by decide) (fun h116 => ?_) (fun h116 => ?_)
                                        · have h := if_t h h116
                                          refine v_bipush (pc := 436) hX dL_poll_436 bp_6 ?_
                                          exact v_sub [0, 1, 4, 5, 6, 7, 8] rfl (K107 6 h)
                                        · have h := if_f h h116
                                          refine v_iload (pc := 429) 3 hX dL_poll_429 rfl ?_
                                          refine v_iconst (pc := 431) hX dL_poll_431 ic_1 ?_
                                          refine v_iadd (pc := 432) hX dL_poll_432 ?_
                                          refine v_goto (pc := 433) (tgt := 438) hX dL_poll_433 (by decide) ?_
                                          exact v_sub [0, 1, 4, 5, 6, 7, 8] rfl (K107 (x21 + 1) h)
                                refine v_icmp_ne (pc := 379) (tgt := 387) hX dL_poll_379 (by decide) (fun h117 => ?_) (fun h117 => ?_)
                                · have h := if_f h h117
                                  refine v_iconst (pc := 387) hX dL_poll_387 ic_2 ?_
                                  refine v_iload_n (pc := 388) 2 hX dL_poll_388 rfl ?_
                                  refine v_imul (pc := 389) hX dL_poll_389 ?_
                                  exact v_sub [0, 3, 5, 7, 8, 9, 10, 14, 15] rfl (K69 (2 * x5) h)
                                · have h := if_t h h117
                                  refine v_bipush (pc := 382) hX dL_poll_382 bp_16 ?_
                                  refine v_goto (pc := 384) (tgt := 390) hX dL_poll_384 (by decide) ?_
                                  exact v_sub [0, 3, 5, 7, 8, 9, 10, 14, 15] rfl (K69 16 h)
                              · have h := if_f h h65
                                refine v_aload_n (pc := 295) 0 hX dL_poll_295 rfl ?_
                                refine v_iconst (pc := 296) hX dL_poll_296 ic_3 ?_
                                obtain ⟨x119, h118, h⟩ := b1_e h
                                refine v_callV (pc := 297) [.int 3] (some (.int x119)) M48 hX cv_L_55 (c_X10_searchOf (sub_cs hcs (Nat.le_of_ble_eq_true rfl) (Nat.le_of_ble_eq_true rfl)) M48 3 x119 h118) (hcs 0 (Nat.le_of_ble_eq_true rfl) (Nat.le_of_ble_eq_true rfl)) sh_0 rfl rfl rfl ⟨Nat.le_of_ble_eq_true rfl, Nat.le_of_ble_eq_true rfl⟩ (Nat.le_of_ble_eq_true rfl) dL_poll_297 ?_
                                show VV X 21 ad cs M48 300 [(0, .ref (ad 0)), (2, .int x2), (3, .int x5), (6, .int x13), (7, .int x15), (8, .int x17), (9, .int x19), (10, .int x21), (11, .int x23), (12, .int x25), (13, .int x27), (14, .int x30), (15, .int x33), (16, .int x36), (17, .int x39), (18, .long y41)] [.int x119]
                                refine v_iload_n (pc := 300) 2 hX dL_poll_300 rfl ?_
                                refine v_iconst (pc := 301) hX dL_poll_301 ic_1 ?_
                                obtain ⟨k120, ek120, h⟩ := bd_e h
                                have K121 : ∀ (x122 : Int32), k120 x122 = some q → VV X 21 ad cs M48 312 [(0, .ref (ad 0)), (3, .int x5), (8, .int x17), (10, .int x21), (18, .long y41)] [.int x122, .int x119] := by
                                  intro x122 h
                                  subst ek120
                                  refine v_icmp_ne (pc := 312) (tgt := 369) hX dL_poll_312 (by decide) (fun h123 => ?_) (fun h123 => ?_)
                                  · have h := if_f h h123
                                    refine v_iconst (pc := 369) hX dL_poll_369 ic_0 ?_
                                    obtain rfl := Option.some.inj h
                                    exact v_zret (pc := 370) hX hR (Or.inl rfl) dL_poll_370
                                  · have h := if_t h h123
                                    refine v_aload_n (pc := 315) 0 hX dL_poll_315 rfl ?_
                                    refine v_iconst (pc := 316) hX dL_poll_316 ic_5 ?_
                                    obtain ⟨x125, h124, h⟩ := b1_e h
                                    refine v_callV (pc := 317) [.int 5] (some (.int x125)) M48 hX cv_L_55 (c_X10_searchOf (sub_cs hcs (Nat.le_of_ble_eq_true rfl) (Nat.le_of_ble_eq_true rfl)) M48 5 x125 h124) (hcs 0 (Nat.le_of_ble_eq_true rfl) (Nat.le_of_ble_eq_true rfl)) sh_0 rfl rfl rfl ⟨Nat.le_of_ble_eq_true rfl, Nat.le_of_ble_eq_true rfl⟩ (Nat.le_of_ble_eq_true rfl) dL_poll_317 ?_
                                    show VV X 21 ad cs M48 320 [(0, .ref (ad 0)), (3, .int x5), (8, .int x17), (10, .int x21), (18, .long y41)] [.int x125]
                                    refine v_iload (pc := 320) 2 hX dL_poll_320 rfl ?_
                                    refine v_icmp_ne (pc := 322) (tgt := 369) hX dL_poll_322 (by decide) (fun h126 => ?_) (fun h126 => ?_)
                                    · have h := if_f h h126
                                      refine v_iconst (pc := 369) hX dL_poll_369 ic_0 ?_
                                      obtain rfl := Option.some.inj h
                                      exact v_zret (pc := 370) hX hR (Or.inl rfl) dL_poll_370
                                    · have h := if_t h h126
                                      refine v_aload_n (pc := 325) 0 hX dL_poll_325 rfl ?_
                                      refine v_bipush (pc := 326) hX dL_poll_326 bp_8 ?_
                                      obtain ⟨x128, h127, h⟩ := b1_e h
                                      refine v_callV (pc := 328) [.int 8] (some (.int x128)) M48 hX cv_L_55 (c_X10_searchOf (sub_cs hcs (Nat.le_of_ble_eq_true rfl) (Nat.le_of_ble_eq_true rfl)) M48 8 x128 h127) (hcs 0 (Nat.le_of_ble_eq_true rfl) (Nat.le_of_ble_eq_true rfl)) sh_0 rfl rfl rfl ⟨Nat.le_of_ble_eq_true rfl, Nat.le_of_ble_eq_true rfl⟩ (Nat.le_of_ble_eq_true rfl) dL_poll_328 ?_
                                      show VV X 21 ad cs M48 331 [(0, .ref (ad 0)), (3, .int x5), (8, .int x17), (10, .int x21), (18, .long y41)] [.int x128]
                                      refine v_iload (pc := 331) 3 hX dL_poll_331 rfl ?_
                                      refine v_icmp_ne (pc := 333) (tgt := 369) hX dL_poll_333 (by decide) (fun h129 => ?_) (fun h129 => ?_)
                                      · have h := if_f h h129
                                        refine v_iconst (pc := 369) hX dL_poll_369 ic_0 ?_
                                        obtain rfl := Option.some.inj h
                                        exact v_zret (pc := 370) hX hR (Or.inl rfl) dL_poll_370
                                      · have h := if_t h h129
                                        refine v_aload_n (pc := 336) 0 hX dL_poll_336 rfl ?_
                                        refine v_bipush (pc := 337) hX dL_poll_337 bp_9 ?_
                                        obtain ⟨x131, h130, h⟩ := b1_e h
                                        refine v_callV (pc := 339) [.int 9] (some (.int x131)) M48 hX cv_L_55 (c_X10_searchOf (sub_cs hcs (Nat.le_of_ble_eq_true rfl) (Nat.le_of_ble_eq_true rfl)) M48 9 x131 h130) (hcs 0 (Nat.le_of_ble_eq_true rfl) (Nat.le_of_ble_eq_true rfl)) sh_0 rfl rfl rfl ⟨Nat.le_of_ble_eq_true rfl, Nat.le_of_ble_eq_true rfl⟩ (Nat.le_of_ble_eq_true rfl) dL_poll_339 ?_
                                        show VV X 21 ad cs M48 342 [(0, .ref (ad 0)), (3, .int x5), (8, .int x17), (10, .int x21), (18, .long y41)] [.int x131]
                                        refine v_iload_n (pc := 342) 1 hX dL_poll_342 rfl ?_
                                        refine v_iconst (pc := 343) hX dL_poll_343 ic_1 ?_
                                        obtain ⟨k132, ek132, h⟩ := bd_e h
                                        have K133 : ∀ (x134 : Int32), k132 x134 = some q → VV X 21 ad cs M48 352 [(0, .ref (ad 0)), (18, .long y41)] [.int x134, .int x131] := by
                                          intro x134 h
                                          subst ek132
                                          refine v_icmp_ne (pc := 352) (tgt := 369) hX dL_poll_352 (by decide) (fun h135 => ?_) (fun h135 => ?_)
                                          · have h := if_f h h135
                                            refine v_iconst (pc := 369) hX dL_poll_369 ic_0 ?_
                                            obtain rfl := Option.some.inj h
                                            exact v_zret (pc := 370) hX hR (Or.inl rfl) dL_poll_370
                                          · have h := if_t h h135
                                            refine v_aload_n (pc := 355) 0 hX dL_poll_355 rfl ?_
                                            obtain ⟨y137, h136, h⟩ := b1_e h
                                            refine v_callS (pc := 356) [.ref (ad 0)] (some (.long y137)) M48 hX cv_L_73 (c_L_here (sub_cs hcs (Nat.le_of_ble_eq_true rfl) (Nat.le_of_ble_eq_true rfl)) M48 y137 h136) rfl rfl ⟨Nat.le_of_ble_eq_true rfl, Nat.le_of_ble_eq_true rfl⟩ (Nat.le_of_ble_eq_true rfl) dL_poll_356 ?_
                                            show VV X 21 ad cs M48 359 [(0, .ref (ad 0)), (18, .long y41)] [.long y137]
                                            refine v_lload (pc := 359) 1 hX dL_poll_359 rfl ?_
                                            refine v_lcmp (pc := 361) hX dL_poll_361 ?_
                                            refine v_if_ne (pc := 362) (tgt := 369) hX dL_poll_362 (by decide) (fun h138 => ?_) (fun h138 => ?_)
                                            · have h := if_f h h138
                                              refine v_iconst (pc := 369) hX dL_poll_369 ic_0 ?_
                                              obtain rfl := Option.some.inj h
                                              exact v_zret (pc := 370) hX hR (Or.inl rfl) dL_poll_370
                                            · have h := if_t h h138
                                              refine v_iconst (pc := 365) hX dL_poll_365 ic_1 ?_
                                              refine v_goto (pc := 366) (tgt := 370) hX dL_poll_366 (by decide) ?_
                                              obtain rfl := Option.some.inj h
                                              exact v_zret (pc := 370) hX hR (Or.inr rfl) dL_poll_370
                                        refine v_icmp_ne (pc := 344) (tgt := 351) hX dL_poll_344 (by decide) (fun h139 => ?_) (fun h139 => ?_)
                                        · have h := if_f h h139
                                          refine v_iconst (pc := 351) hX dL_poll_351 ic_0 ?_
                                          exact v_sub [0, 4] rfl (K133 0 h)
                                        · have h := if_t h h139
                                          refine v_iconst (pc := 347) hX dL_poll_347 ic_1 ?_
                                          refine v_goto (pc := 348) (tgt := 352) hX dL_poll_348 (by decide) ?_
                                          exact v_sub [0, 4] rfl (K133 1 h)
                                refine v_icmp_ne (pc := 302) (tgt := 309) hX dL_poll_302 (by decide) (fun h140 => ?_) (fun h140 => ?_)
                                · have h := if_f h h140
                                  refine v_iload_n (pc := 309) 2 hX dL_poll_309 rfl ?_
                                  refine v_iconst (pc := 310) hX dL_poll_310 ic_2 ?_
                                  refine v_idiv (pc := 311) hX dL_poll_311 (by decide) ?_
                                  exact v_sub [0, 2, 5, 7, 15] rfl (K121 (x5 / 2) h)
                                · have h := if_t h h140
                                  refine v_iconst (pc := 305) hX dL_poll_305 ic_1 ?_
                                  refine v_goto (pc := 306) (tgt := 312) hX dL_poll_306 (by decide) ?_
                                  exact v_sub [0, 2, 5, 7, 15] rfl (K121 1 h)
                            · have h := if_f h h64
                              refine v_iconst (pc := 288) hX dL_poll_288 ic_0 ?_
                              obtain rfl := Option.some.inj h
                              exact v_zret (pc := 289) hX hR (Or.inl rfl) dL_poll_289
              refine v_if_ge (pc := 210) (tgt := 217) hX dL_poll_210 (by decide) (fun h141 => ?_) (fun h141 => ?_)
              · have h := if_t h h141
                refine v_iconst (pc := 217) hX dL_poll_217 ic_0 ?_
                exact v_sub [2, 3, 4, 6, 7, 8, 9, 10, 11, 12, 13, 14, 15, 16, 1, 0] rfl (K43 0 h)
              · have h := if_f h h141
                refine v_iconst (pc := 213) hX dL_poll_213 ic_1 ?_
                refine v_goto (pc := 214) (tgt := 218) hX dL_poll_214 (by decide) ?_
                exact v_sub [2, 3, 4, 6, 7, 8, 9, 10, 11, 12, 13, 14, 15, 16, 1, 0] rfl (K43 1 h)
            refine v_if_ge (pc := 184) (tgt := 191) hX dL_poll_184 (by decide) (fun h142 => ?_) (fun h142 => ?_)
            · have h := if_t h h142
              refine v_aload_n (pc := 191) 1 hX dL_poll_191 rfl ?_
              refine v_iload (pc := 192) 5 hX dL_poll_192 rfl ?_
              refine v_iconst (pc := 194) hX dL_poll_194 ic_3 ?_
              obtain ⟨x144, h143, h⟩ := b1_e h
              refine v_callV (pc := 195) [.int x13, .int 3] (some (.int x144)) M11 hX cv_L_58 (c_X10_directionOf (sub_cs hcs (Nat.le_of_ble_eq_true rfl) (Nat.le_of_ble_eq_true rfl)) M11 x13 3 x144 h143) (hcs 0 (Nat.le_of_ble_eq_true rfl) (Nat.le_of_ble_eq_true rfl)) sh_0 rfl rfl rfl ⟨Nat.le_of_ble_eq_true rfl, Nat.le_of_ble_eq_true rfl⟩ (Nat.le_of_ble_eq_true rfl) dL_poll_195 ?_
              show VV X 21 ad cs M11 198 [(16, .int x36), (0, .ref (ad 0)), (2, .int x2), (3, .int x5), (5, .int x10), (6, .int x13), (7, .int x15), (8, .int x17), (9, .int x19), (10, .int x21), (11, .int x23), (12, .int x25), (13, .int x27), (14, .int x30), (15, .int x33)] [.int x144]
              exact v_sub [1, 2, 3, 4, 5, 6, 7, 8, 9, 10, 11, 12, 13, 14, 0] rfl (K38 x144 h)
            · have h := if_f h h142
              refine v_iconst (pc := 187) hX dL_poll_187 ic_0 ?_
              refine v_goto (pc := 188) (tgt := 198) hX dL_poll_188 (by decide) ?_
              exact v_sub [1, 2, 3, 4, 5, 6, 7, 8, 9, 10, 11, 12, 13, 14, 0] rfl (K38 0 h)
          refine v_if_ge (pc := 165) (tgt := 173) hX dL_poll_165 (by decide) (fun h145 => ?_) (fun h145 => ?_)
          · have h := if_t h h145
            refine v_aload_n (pc := 173) 1 hX dL_poll_173 rfl ?_
            refine v_iload (pc := 174) 5 hX dL_poll_174 rfl ?_
            refine v_iconst (pc := 176) hX dL_poll_176 ic_2 ?_
            obtain ⟨x147, h146, h⟩ := b1_e h
            refine v_callS (pc := 177) [.ref (ad 0), .int x13, .int 2] (some (.int x147)) M11 hX cv_L_61 (c_L_at (sub_cs hcs (Nat.le_of_ble_eq_true rfl) (Nat.le_of_ble_eq_true rfl)) M11 x13 2 x147 h146) rfl rfl ⟨Nat.le_of_ble_eq_true rfl, Nat.le_of_ble_eq_true rfl⟩ (Nat.le_of_ble_eq_true rfl) dL_poll_177 ?_
            show VV X 21 ad cs M11 180 [(15, .int x33), (0, .ref (ad 0)), (2, .int x2), (3, .int x5), (5, .int x10), (6, .int x13), (7, .int x15), (8, .int x17), (9, .int x19), (10, .int x21), (11, .int x23), (12, .int x25), (13, .int x27), (14, .int x30)] [.int x147]
            exact v_sub [1, 2, 3, 4, 5, 6, 7, 8, 9, 10, 11, 12, 13, 0] rfl (K35 x147 h)
          · have h := if_f h h145
            refine v_iload (pc := 168) 12 hX dL_poll_168 rfl ?_
            refine v_goto (pc := 170) (tgt := 180) hX dL_poll_170 (by decide) ?_
            exact v_sub [1, 2, 3, 4, 5, 6, 7, 8, 9, 10, 11, 12, 13, 0] rfl (K35 x27 h)
        refine v_if_ge (pc := 146) (tgt := 154) hX dL_poll_146 (by decide) (fun h148 => ?_) (fun h148 => ?_)
        · have h := if_t h h148
          refine v_aload_n (pc := 154) 1 hX dL_poll_154 rfl ?_
          refine v_iload (pc := 155) 5 hX dL_poll_155 rfl ?_
          refine v_iconst (pc := 157) hX dL_poll_157 ic_1 ?_
          obtain ⟨x150, h149, h⟩ := b1_e h
          refine v_callS (pc := 158) [.ref (ad 0), .int x13, .int 1] (some (.int x150)) M11 hX cv_L_61 (c_L_at (sub_cs hcs (Nat.le_of_ble_eq_true rfl) (Nat.le_of_ble_eq_true rfl)) M11 x13 1 x150 h149) rfl rfl ⟨Nat.le_of_ble_eq_true rfl, Nat.le_of_ble_eq_true rfl⟩ (Nat.le_of_ble_eq_true rfl) dL_poll_158 ?_
          show VV X 21 ad cs M11 161 [(14, .int x30), (0, .ref (ad 0)), (2, .int x2), (3, .int x5), (5, .int x10), (6, .int x13), (7, .int x15), (8, .int x17), (9, .int x19), (10, .int x21), (11, .int x23), (12, .int x25), (13, .int x27)] [.int x150]
          exact v_sub [1, 2, 3, 4, 5, 6, 7, 8, 9, 10, 11, 12, 0] rfl (K32 x150 h)
        · have h := if_f h h148
          refine v_iload (pc := 149) 11 hX dL_poll_149 rfl ?_
          refine v_goto (pc := 151) (tgt := 161) hX dL_poll_151 (by decide) ?_
          exact v_sub [1, 2, 3, 4, 5, 6, 7, 8, 9, 10, 11, 12, 0] rfl (K32 x25 h)
      refine v_if_ge (pc := 127) (tgt := 135) hX dL_poll_127 (by decide) (fun h151 => ?_) (fun h151 => ?_)
      · have h := if_t h h151
        refine v_aload_n (pc := 135) 10 hX dL_poll_135 rfl ?_
        refine v_iload (pc := 136) 7 hX dL_poll_136 rfl ?_
        refine v_iconst (pc := 138) hX dL_poll_138 ic_0 ?_
        obtain ⟨x153, h152, h⟩ := b1_e h
        refine v_callS (pc := 139) [.ref (ad 0), .int x13, .int 0] (some (.int x153)) M11 hX cv_L_61 (c_L_at (sub_cs hcs (Nat.le_of_ble_eq_true rfl) (Nat.le_of_ble_eq_true rfl)) M11 x13 0 x153 h152) rfl rfl ⟨Nat.le_of_ble_eq_true rfl, Nat.le_of_ble_eq_true rfl⟩ (Nat.le_of_ble_eq_true rfl) dL_poll_139 ?_
        show VV X 21 ad cs M11 142 [(13, .int x27), (12, .int x25), (11, .int x23), (10, .int x21), (9, .int x19), (8, .int x17), (7, .int x15), (6, .int x13), (5, .int x10), (4, .int x8), (0, .ref (ad 0)), (2, .int x2), (3, .int x5)] [.int x153]
        exact v_sub [10, 11, 12, 8, 7, 6, 5, 4, 3, 2, 1, 0] rfl (K29 x153 h)
      · have h := if_f h h151
        refine v_iload (pc := 130) 2 hX dL_poll_130 rfl ?_
        refine v_goto (pc := 132) (tgt := 142) hX dL_poll_132 (by decide) ?_
        exact v_sub [10, 11, 12, 8, 7, 6, 5, 4, 3, 2, 1, 0] rfl (K29 x23 h)
    · have h := if_f h h12
      refine v_iconst (pc := 64) hX dL_poll_64 ic_0 ?_
      obtain rfl := Option.some.inj h
      exact v_zret (pc := 65) hX hR (Or.inl rfl) dL_poll_65
  refine v_icmp_ne (pc := 14) (tgt := 21) hX dL_poll_14 (by decide) (fun h154 => ?_) (fun h154 => ?_)
  · have h := if_f h h154
    refine v_iload_n (pc := 21) 0 hX dL_poll_21 rfl ?_
    refine v_iconst (pc := 22) hX dL_poll_22 ic_2 ?_
    refine v_icmp_ne (pc := 23) (tgt := 30) hX dL_poll_23 (by decide) (fun h155 => ?_) (fun h155 => ?_)
    · have h := if_f h h155
      refine v_iload_n (pc := 30) 0 hX dL_poll_30 rfl ?_
      refine v_iconst (pc := 31) hX dL_poll_31 ic_4 ?_
      refine v_icmp_ne (pc := 32) (tgt := 39) hX dL_poll_32 (by decide) (fun h156 => ?_) (fun h156 => ?_)
      · have h := if_f h h156
        refine v_iload_n (pc := 39) 0 hX dL_poll_39 rfl ?_
        refine v_bipush (pc := 40) hX dL_poll_40 bp_8 ?_
        refine v_icmp_ne (pc := 42) (tgt := 49) hX dL_poll_42 (by decide) (fun h157 => ?_) (fun h157 => ?_)
        · have h := if_f h h157
          refine v_iconst (pc := 49) hX dL_poll_49 ic_4 ?_
          exact v_sub [2, 1, 0] rfl (K7 4 h)
        · have h := if_t h h157
          refine v_iconst (pc := 45) hX dL_poll_45 ic_3 ?_
          refine v_goto (pc := 46) (tgt := 50) hX dL_poll_46 (by decide) ?_
          exact v_sub [2, 1, 0] rfl (K7 3 h)
      · have h := if_t h h156
        refine v_iconst (pc := 35) hX dL_poll_35 ic_2 ?_
        refine v_goto (pc := 36) (tgt := 50) hX dL_poll_36 (by decide) ?_
        exact v_sub [2, 1, 0] rfl (K7 2 h)
    · have h := if_t h h155
      refine v_iconst (pc := 26) hX dL_poll_26 ic_1 ?_
      refine v_goto (pc := 27) (tgt := 50) hX dL_poll_27 (by decide) ?_
      exact v_sub [2, 1, 0] rfl (K7 1 h)
  · have h := if_t h h154
    refine v_iconst (pc := 17) hX dL_poll_17 ic_0 ?_
    refine v_goto (pc := 18) (tgt := 50) hX dL_poll_18 (by decide) ?_
    exact v_sub [2, 1, 0] rfl (K7 0 h)
