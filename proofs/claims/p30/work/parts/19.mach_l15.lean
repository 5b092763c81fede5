set_option maxHeartbeats 4000000 in
set_option maxRecDepth 100000 in
theorem c_X10_trialOf {ad : Nat → Nat} {cs : List Nat} (hcs : ∀ k, 0 ≤ k → k < 90 → k ∈ cs) (M : Mm) (w1 : Int32) (w2 : Int32) (q : Int32 × Mm) (h : fX10_trialOf M w1 w2 = some q) : CT ad cs yX10_trialOf cX10_trialOf 3 (some .int) 4 103 [.ref (ad 0), .int w1, .int w2] M (some (.int q.1)) q.2 := by
  refine CT.of RX10 (by decide +kernel) rfl (Nat.le_of_ble_eq_true rfl) (fun X hX hR => ?_)
  unfold fX10_trialOf at h
  show VV X 3 ad cs M 0 [(0, .ref (ad 0)), (1, .int w1), (2, .int w2)] []
  refine v_iload_n (pc := 0) 1 hX dX10_trialOf_0 rfl ?_
  refine v_if_lt (pc := 1) (tgt := 13) hX dX10_trialOf_1 (by decide) (fun h1 => ?_) (fun h1 => ?_)
  · have h := if_t h h1
    refine v_ldc (pc := 13) hX kc_10_66 dX10_trialOf_13 ?_
    obtain rfl := Option.some.inj h
    exact v_iret (pc := 15) hX hR dX10_trialOf_15
  · have h := if_f h h1
    refine v_iload_n (pc := 4) 2 hX dX10_trialOf_4 rfl ?_
    refine v_iconst (pc := 5) hX dX10_trialOf_5 ic_0 ?_
    refine v_iconst (pc := 6) hX dX10_trialOf_6 ic_1 ?_
    obtain ⟨x3, h2, h⟩ := b1_e h
    refine v_callS (pc := 7) [.int w2, .int 0, .int 1] (some (.int x3)) M hX cv_10_62 (c_X10_within M w2 0 1 x3 h2) rfl rfl ⟨Nat.le_of_ble_eq_true rfl, Nat.le_of_ble_eq_true rfl⟩ (Nat.le_of_ble_eq_true rfl) dX10_trialOf_7 ?_
    show VV X 3 ad cs M 10 [(0, .ref (ad 0)), (1, .int w1), (2, .int w2)] [.int x3]
    refine v_if_ne (pc := 10) (tgt := 16) hX dX10_trialOf_10 (by decide) (fun h4 => ?_) (fun h4 => ?_)
    · have h := if_f h h4
      refine v_aload_n (pc := 16) 0 hX dX10_trialOf_16 rfl ?_
      refine v_getR (pc := 17) (t := 86) hX (hcs 0 (Nat.le_of_ble_eq_true rfl) (Nat.le_of_ble_eq_true rfl)) sh_0 fl_10_44 rfl dX10_trialOf_17 ?_
      refine v_aload_n (pc := 20) 0 hX dX10_trialOf_20 rfl ?_
      refine v_getR (pc := 21) (t := 1) hX (hcs 0 (Nat.le_of_ble_eq_true rfl) (Nat.le_of_ble_eq_true rfl)) sh_0 fl_10_10 rfl dX10_trialOf_21 ?_
      refine v_aload_n (pc := 24) 0 hX dX10_trialOf_24 rfl ?_
      refine v_getR (pc := 25) (t := 1) hX (hcs 0 (Nat.le_of_ble_eq_true rfl) (Nat.le_of_ble_eq_true rfl)) sh_0 fl_10_10 rfl dX10_trialOf_25 ?_
      refine v_getR (pc := 28) (t := 11) hX (hcs 1 (Nat.le_of_ble_eq_true rfl) (Nat.le_of_ble_eq_true rfl)) sh_1 fl_10_139 rfl dX10_trialOf_28 ?_
      refine v_getI (pc := 31) hX (hcs 11 (Nat.le_of_ble_eq_true rfl) (Nat.le_of_ble_eq_true rfl)) sh_11 fl_10_191 rfl dX10_trialOf_31 ?_
      obtain ⟨M6, h5, h⟩ := b1_e h
      refine v_callV (pc := 34) [.ref (ad 1), .int (M.1 11 1)] none M6 hX cv_10_220 (c_X9_gather (sub_cs hcs (Nat.le_of_ble_eq_true rfl) (Nat.le_of_ble_eq_true rfl)) M (M.1 11 1) M6 h5) (hcs 86 (Nat.le_of_ble_eq_true rfl) (Nat.le_of_ble_eq_true rfl)) sh_86 rfl rfl rfl ⟨Nat.le_of_ble_eq_true rfl, Nat.le_of_ble_eq_true rfl⟩ (Nat.le_of_ble_eq_true rfl) dX10_trialOf_34 ?_
      show VV X 3 ad cs M6 37 [(0, .ref (ad 0)), (1, .int w1), (2, .int w2)] []
      refine v_iload_n (pc := 37) 1 hX dX10_trialOf_37 rfl ?_
      refine v_aload_n (pc := 38) 0 hX dX10_trialOf_38 rfl ?_
      refine v_getR (pc := 39) (t := 86) hX (hcs 0 (Nat.le_of_ble_eq_true rfl) (Nat.le_of_ble_eq_true rfl)) sh_0 fl_10_44 rfl dX10_trialOf_39 ?_
      refine v_getI (pc := 42) hX (hcs 86 (Nat.le_of_ble_eq_true rfl) (Nat.le_of_ble_eq_true rfl)) sh_86 fl_10_224 rfl dX10_trialOf_42 ?_
      refine v_icmp_lt (pc := 45) (tgt := 51) hX dX10_trialOf_45 (by decide) (fun h7 => ?_) (fun h7 => ?_)
      · have h := if_t h h7
        refine v_iload_n (pc := 51) 2 hX dX10_trialOf_51 rfl ?_
        refine v_if_ne (pc := 52) (tgt := 67) hX dX10_trialOf_52 (by decide) (fun h8 => ?_) (fun h8 => ?_)
        · have h := if_f h h8
          refine v_aload_n (pc := 67) 0 hX dX10_trialOf_67 rfl ?_
          refine v_getR (pc := 68) (t := 86) hX (hcs 0 (Nat.le_of_ble_eq_true rfl) (Nat.le_of_ble_eq_true rfl)) sh_0 fl_10_44 rfl dX10_trialOf_68 ?_
          refine v_iload_n (pc := 71) 1 hX dX10_trialOf_71 rfl ?_
          obtain ⟨x10, h9, h⟩ := b1_e h
          refine v_callV (pc := 72) [.int w1] (some (.int x10)) M6 hX cv_10_227 (c_X9_isBetter (sub_cs hcs (Nat.le_of_ble_eq_true rfl) (Nat.le_of_ble_eq_true rfl)) M6 w1 x10 h9) (hcs 86 (Nat.le_of_ble_eq_true rfl) (Nat.le_of_ble_eq_true rfl)) sh_86 rfl rfl rfl ⟨Nat.le_of_ble_eq_true rfl, Nat.le_of_ble_eq_true rfl⟩ (Nat.le_of_ble_eq_true rfl) dX10_trialOf_72 ?_
          show VV X 3 ad cs M6 75 [(0, .ref (ad 0)), (1, .int w1), (2, .int w2)] [.int x10]
          obtain ⟨x12, h11, h⟩ := b1_e h
          refine v_callS (pc := 75) [.int x10] (some (.int x12)) M6 hX cv_10_121 (c_X10_oneIf M6 x10 x12 h11) rfl rfl ⟨Nat.le_of_ble_eq_true rfl, Nat.le_of_ble_eq_true rfl⟩ (Nat.le_of_ble_eq_true rfl) dX10_trialOf_75 ?_
          show VV X 3 ad cs M6 78 [(0, .ref (ad 0)), (1, .int w1), (2, .int w2)] [.int x12]
          obtain rfl := Option.some.inj h
          exact v_iret (pc := 78) hX hR dX10_trialOf_78
        · have h := if_t h h8
          refine v_aload_n (pc := 55) 0 hX dX10_trialOf_55 rfl ?_
          refine v_getR (pc := 56) (t := 86) hX (hcs 0 (Nat.le_of_ble_eq_true rfl) (Nat.le_of_ble_eq_true rfl)) sh_0 fl_10_44 rfl dX10_trialOf_56 ?_
          refine v_getR (pc := 59) (t := 87) hX (hcs 86 (Nat.le_of_ble_eq_true rfl) (Nat.le_of_ble_eq_true rfl)) sh_86 fl_10_225 rfl dX10_trialOf_59 ?_
          refine v_iload_n (pc := 62) 1 hX dX10_trialOf_62 rfl ?_
          obtain ⟨g13, h⟩ := gd_e h
          refine v_iald (pc := 63) hX (hcs 87 (Nat.le_of_ble_eq_true rfl) (Nat.le_of_ble_eq_true rfl)) sh_87 g13 rfl dX10_trialOf_63 ?_
          refine v_goto (pc := 64) (tgt := 78) hX dX10_trialOf_64 (by decide) ?_
          obtain rfl := Option.some.inj h
          exact v_iret (pc := 78) hX hR dX10_trialOf_78
      · have h := if_f h h7
        refine v_ldc (pc := 48) hX kc_10_178 dX10_trialOf_48 ?_
        obtain rfl := Option.some.inj h
        exact v_iret (pc := 50) hX hR dX10_trialOf_50
    · have h := if_t h h4
      refine v_ldc (pc := 13) hX kc_10_66 dX10_trialOf_13 ?_
      obtain rfl := Option.some.inj h
      exact v_iret (pc := 15) hX hR dX10_trialOf_15
set_option maxHeartbeats 4000000 in
set_option maxRecDepth 100000 in
theorem c_L_at {ad : Nat → Nat} {cs : List Nat} (hcs : ∀ k, 0 ≤ k → k < 13 → k ∈ cs) (M : Mm) (w1 : Int32) (w2 : Int32) (q : Int32) (h : fL_at M w1 w2 = some q) : CT ad cs yL_at cL_at 3 (some .int) 2 44 [.ref (ad 0), .int w1, .int w2] M (some (.int q)) M := by
  refine CT.of RL (by decide +kernel) rfl (Nat.le_of_ble_eq_true rfl) (fun X hX hR => ?_)
  unfold fL_at at h
  show VV X 3 ad cs M 0 [(0, .ref (ad 0)), (1, .int w1), (2, .int w2)] []
  refine v_aload_n (pc := 0) 0 hX dL_at_0 rfl ?_
  refine v_iload_n (pc := 1) 2 hX dL_at_1 rfl ?_
  obtain ⟨x2, h1, h⟩ := b1_e h
  refine v_callV (pc := 2) [.int w2] (some (.int x2)) M hX cv_L_55 (c_X10_searchOf (sub_cs hcs (Nat.le_of_ble_eq_true rfl) (Nat.le_of_ble_eq_true rfl)) M w2 x2 h1) (hcs 0 (Nat.le_of_ble_eq_true rfl) (Nat.le_of_ble_eq_true rfl)) sh_0 rfl rfl rfl ⟨Nat.le_of_ble_eq_true rfl, Nat.le_of_ble_eq_true rfl⟩ (Nat.le_of_ble_eq_true rfl) dL_at_2 ?_
  show VV X 3 ad cs M 5 [(0, .ref (ad 0)), (1, .int w1), (2, .int w2)] [.int x2]
  refine v_aload_n (pc := 5) 0 hX dL_at_5 rfl ?_
  refine v_iconst (pc := 6) hX dL_at_6 ic_3 ?_
  obtain ⟨x4, h3, h⟩ := b1_e h
  refine v_callV (pc := 7) [.int 3] (some (.int x4)) M hX cv_L_55 (c_X10_searchOf (sub_cs hcs (Nat.le_of_ble_eq_true rfl) (Nat.le_of_ble_eq_true rfl)) M 3 x4 h3) (hcs 0 (Nat.le_of_ble_eq_true rfl) (Nat.le_of_ble_eq_true rfl)) sh_0 rfl rfl rfl ⟨Nat.le_of_ble_eq_true rfl, Nat.le_of_ble_eq_true rfl⟩ (Nat.le_of_ble_eq_true rfl) dL_at_7 ?_
  show VV X 3 ad cs M 10 [(0, .ref (ad 0)), (1, .int w1), (2, .int w2)] [.int x4, .int x2]
  refine v_aload_n (pc := 10) 0 hX dL_at_10 rfl ?_
  refine v_iload_n (pc := 11) 1 hX dL_at_11 rfl ?_
  refine v_iload_n (pc := 12) 2 hX dL_at_12 rfl ?_
  obtain ⟨x6, h5, h⟩ := b1_e h
  refine v_callV (pc := 13) [.int w1, .int w2] (some (.int x6)) M hX cv_L_58 (c_X10_directionOf (sub_cs hcs (Nat.le_of_ble_eq_true rfl) (Nat.le_of_ble_eq_true rfl)) M w1 w2 x6 h5) (hcs 0 (Nat.le_of_ble_eq_true rfl) (Nat.le_of_ble_eq_true rfl)) sh_0 rfl rfl rfl ⟨Nat.le_of_ble_eq_true rfl, Nat.le_of_ble_eq_true rfl⟩ (Nat.le_of_ble_eq_true rfl) dL_at_13 ?_
  show VV X 3 ad cs M 16 [(0, .ref (ad 0)), (1, .int w1), (2, .int w2)] [.int x6, .int x4, .int x2]
  refine v_imul (pc := 16) hX dL_at_16 ?_
  refine v_iadd (pc := 17) hX dL_at_17 ?_
  obtain rfl := Option.some.inj h
  exact v_iret (pc := 18) hX hR dL_at_18
