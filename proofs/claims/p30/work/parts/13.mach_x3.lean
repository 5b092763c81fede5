set_option maxHeartbeats 4000000 in
set_option maxRecDepth 100000 in
theorem c_X4_forgetDirection {ad : Nat → Nat} {cs : List Nat} (hcs : ∀ k, 11 ≤ k → k < 12 → k ∈ cs) (M : Mm) (w1 : Int32) (q : Mm) (h : fX4_forgetDirection M w1 = some q) : CT ad cs yX4_forgetDirection cX4_forgetDirection 2 none 0 0 [.ref (ad 11), .int w1] M none q := by
  refine CT.of RX4 (by decide +kernel) rfl (Nat.le_of_ble_eq_true rfl) (fun X hX hR => ?_)
  unfold fX4_forgetDirection at h
  show VV X 2 ad cs M 0 [(0, .ref (ad 11)), (1, .int w1)] []
  refine v_aload_n (pc := 0) 0 hX dX4_forgetDirection_0 rfl ?_
  refine v_getI (pc := 1) hX (hcs 11 (Nat.le_of_ble_eq_true rfl) (Nat.le_of_ble_eq_true rfl)) sh_11 fl_4_35 rfl dX4_forgetDirection_1 ?_
  refine v_iload_n (pc := 4) 1 hX dX4_forgetDirection_4 rfl ?_
  refine v_icmp_ne (pc := 5) (tgt := 16) hX dX4_forgetDirection_5 (by decide) (fun h1 => ?_) (fun h1 => ?_)
  · have h := if_f h h1
    refine v_aload_n (pc := 16) 0 hX dX4_forgetDirection_16 rfl ?_
    refine v_getI (pc := 17) hX (hcs 11 (Nat.le_of_ble_eq_true rfl) (Nat.le_of_ble_eq_true rfl)) sh_11 fl_4_35 rfl dX4_forgetDirection_17 ?_
    refine v_iload_n (pc := 20) 1 hX dX4_forgetDirection_20 rfl ?_
    refine v_icmp_le (pc := 21) (tgt := 34) hX dX4_forgetDirection_21 (by decide) (fun h2 => ?_) (fun h2 => ?_)
    · have h := if_t h h2
      obtain rfl := Option.some.inj h
      exact v_vret (pc := 34) hX hR dX4_forgetDirection_34
    · have h := if_f h h2
      refine v_aload_n (pc := 24) 0 hX dX4_forgetDirection_24 rfl ?_
      refine v_dup (pc := 25) hX dX4_forgetDirection_25 rfl ?_
      refine v_getI (pc := 26) hX (hcs 11 (Nat.le_of_ble_eq_true rfl) (Nat.le_of_ble_eq_true rfl)) sh_11 fl_4_35 rfl dX4_forgetDirection_26 ?_
      refine v_iconst (pc := 29) hX dX4_forgetDirection_29 ic_1 ?_
      refine v_isub (pc := 30) hX dX4_forgetDirection_30 ?_
      obtain ⟨M3, eM3, h⟩ := bd_e h
      refine v_putI (pc := 31) hX (hcs 11 (Nat.le_of_ble_eq_true rfl) (Nat.le_of_ble_eq_true rfl)) sh_11 pl_4_35 rfl dX4_forgetDirection_31 eM3 ?_
      obtain rfl := Option.some.inj h
      exact v_vret (pc := 34) hX hR dX4_forgetDirection_34
  · have h := if_t h h1
    refine v_aload_n (pc := 8) 0 hX dX4_forgetDirection_8 rfl ?_
    refine v_iconst (pc := 9) hX dX4_forgetDirection_9 ic_m1 ?_
    obtain ⟨M4, eM4, h⟩ := bd_e h
    refine v_putI (pc := 10) hX (hcs 11 (Nat.le_of_ble_eq_true rfl) (Nat.le_of_ble_eq_true rfl)) sh_11 pl_4_35 rfl dX4_forgetDirection_10 eM4 ?_
    refine v_goto (pc := 13) (tgt := 34) hX dX4_forgetDirection_13 (by decide) ?_
    obtain rfl := Option.some.inj h
    exact v_vret (pc := 34) hX hR dX4_forgetDirection_34
set_option maxHeartbeats 4000000 in
set_option maxRecDepth 100000 in
theorem c_X10_dropDirection {ad : Nat → Nat} {cs : List Nat} (hcs : ∀ k, 0 ≤ k → k < 67 → k ∈ cs) (M : Mm) (w1 : Int32) (q : Int32 × Mm) (h : fX10_dropDirection M w1 = some q) : CT ad cs yX10_dropDirection cX10_dropDirection 2 (some .int) 4 89 [.ref (ad 0), .int w1] M (some (.int q.1)) q.2 := by
  refine CT.of RX10 (by decide +kernel) rfl (Nat.le_of_ble_eq_true rfl) (fun X hX hR => ?_)
  unfold fX10_dropDirection at h
  show VV X 2 ad cs M 0 [(0, .ref (ad 0)), (1, .int w1)] []
  refine v_iload_n (pc := 0) 1 hX dX10_dropDirection_0 rfl ?_
  refine v_if_ge (pc := 1) (tgt := 7) hX dX10_dropDirection_1 (by decide) (fun h1 => ?_) (fun h1 => ?_)
  · have h := if_t h h1
    refine v_iload_n (pc := 7) 1 hX dX10_dropDirection_7 rfl ?_
    refine v_aload_n (pc := 8) 0 hX dX10_dropDirection_8 rfl ?_
    refine v_getR (pc := 9) (t := 1) hX (hcs 0 (Nat.le_of_ble_eq_true rfl) (Nat.le_of_ble_eq_true rfl)) sh_0 fl_10_10 rfl dX10_dropDirection_9 ?_
    refine v_getR (pc := 12) (t := 8) hX (hcs 1 (Nat.le_of_ble_eq_true rfl) (Nat.le_of_ble_eq_true rfl)) sh_1 fl_10_125 rfl dX10_dropDirection_12 ?_
    refine v_getI (pc := 15) hX (hcs 8 (Nat.le_of_ble_eq_true rfl) (Nat.le_of_ble_eq_true rfl)) sh_8 fl_10_134 rfl dX10_dropDirection_15 ?_
    refine v_icmp_lt (pc := 18) (tgt := 24) hX dX10_dropDirection_18 (by decide) (fun h2 => ?_) (fun h2 => ?_)
    · have h := if_t h h2
      refine v_aload_n (pc := 24) 0 hX dX10_dropDirection_24 rfl ?_
      refine v_getR (pc := 25) (t := 14) hX (hcs 0 (Nat.le_of_ble_eq_true rfl) (Nat.le_of_ble_eq_true rfl)) sh_0 fl_10_23 rfl dX10_dropDirection_25 ?_
      refine v_aload_n (pc := 28) 0 hX dX10_dropDirection_28 rfl ?_
      refine v_getR (pc := 29) (t := 1) hX (hcs 0 (Nat.le_of_ble_eq_true rfl) (Nat.le_of_ble_eq_true rfl)) sh_0 fl_10_10 rfl dX10_dropDirection_29 ?_
      obtain ⟨M4, h3, h⟩ := b1_e h
      refine v_callV (pc := 32) [.ref (ad 1)] none M4 hX cv_10_71 (c_X2_push (sub_cs hcs (Nat.le_of_ble_eq_true rfl) (Nat.le_of_ble_eq_true rfl)) M M4 h3) (hcs 14 (Nat.le_of_ble_eq_true rfl) (Nat.le_of_ble_eq_true rfl)) sh_14 rfl rfl rfl ⟨Nat.le_of_ble_eq_true rfl, Nat.le_of_ble_eq_true rfl⟩ (Nat.le_of_ble_eq_true rfl) dX10_dropDirection_32 ?_
      show VV X 2 ad cs M4 35 [(0, .ref (ad 0)), (1, .int w1)] []
      refine v_aload_n (pc := 35) 0 hX dX10_dropDirection_35 rfl ?_
      refine v_getR (pc := 36) (t := 1) hX (hcs 0 (Nat.le_of_ble_eq_true rfl) (Nat.le_of_ble_eq_true rfl)) sh_0 fl_10_10 rfl dX10_dropDirection_36 ?_
      refine v_getR (pc := 39) (t := 8) hX (hcs 1 (Nat.le_of_ble_eq_true rfl) (Nat.le_of_ble_eq_true rfl)) sh_1 fl_10_125 rfl dX10_dropDirection_39 ?_
      refine v_iload_n (pc := 42) 1 hX dX10_dropDirection_42 rfl ?_
      obtain ⟨M6, h5, h⟩ := b1_e h
      refine v_callV (pc := 43) [.int w1] none M6 hX cv_10_138 (c_X1_remove (sub_cs hcs (Nat.le_of_ble_eq_true rfl) (Nat.le_of_ble_eq_true rfl)) M4 w1 M6 h5) (hcs 8 (Nat.le_of_ble_eq_true rfl) (Nat.le_of_ble_eq_true rfl)) sh_8 rfl rfl rfl ⟨Nat.le_of_ble_eq_true rfl, Nat.le_of_ble_eq_true rfl⟩ (Nat.le_of_ble_eq_true rfl) dX10_dropDirection_43 ?_
      show VV X 2 ad cs M6 46 [(0, .ref (ad 0)), (1, .int w1)] []
      refine v_aload_n (pc := 46) 0 hX dX10_dropDirection_46 rfl ?_
      refine v_getR (pc := 47) (t := 1) hX (hcs 0 (Nat.le_of_ble_eq_true rfl) (Nat.le_of_ble_eq_true rfl)) sh_0 fl_10_10 rfl dX10_dropDirection_47 ?_
      refine v_getR (pc := 50) (t := 11) hX (hcs 1 (Nat.le_of_ble_eq_true rfl) (Nat.le_of_ble_eq_true rfl)) sh_1 fl_10_139 rfl dX10_dropDirection_50 ?_
      refine v_iload_n (pc := 53) 1 hX dX10_dropDirection_53 rfl ?_
      obtain ⟨M8, h7, h⟩ := b1_e h
      refine v_callV (pc := 54) [.int w1] none M8 hX cv_10_143 (c_X4_forgetDirection (sub_cs hcs (Nat.le_of_ble_eq_true rfl) (Nat.le_of_ble_eq_true rfl)) M6 w1 M8 h7) (hcs 11 (Nat.le_of_ble_eq_true rfl) (Nat.le_of_ble_eq_true rfl)) sh_11 rfl rfl rfl ⟨Nat.le_of_ble_eq_true rfl, Nat.le_of_ble_eq_true rfl⟩ (Nat.le_of_ble_eq_true rfl) dX10_dropDirection_54 ?_
      show VV X 2 ad cs M8 57 [(0, .ref (ad 0)), (1, .int w1)] []
      refine v_aload_n (pc := 57) 0 hX dX10_dropDirection_57 rfl ?_
      refine v_getR (pc := 58) (t := 1) hX (hcs 0 (Nat.le_of_ble_eq_true rfl) (Nat.le_of_ble_eq_true rfl)) sh_0 fl_10_10 rfl dX10_dropDirection_58 ?_
      refine v_getR (pc := 61) (t := 8) hX (hcs 1 (Nat.le_of_ble_eq_true rfl) (Nat.le_of_ble_eq_true rfl)) sh_1 fl_10_125 rfl dX10_dropDirection_61 ?_
      refine v_getI (pc := 64) hX (hcs 8 (Nat.le_of_ble_eq_true rfl) (Nat.le_of_ble_eq_true rfl)) sh_8 fl_10_134 rfl dX10_dropDirection_64 ?_
      obtain rfl := Option.some.inj h
      exact v_iret (pc := 67) hX hR dX10_dropDirection_67
    · have h := if_f h h2
      refine v_ldc (pc := 21) hX kc_10_93 dX10_dropDirection_21 ?_
      obtain rfl := Option.some.inj h
      exact v_iret (pc := 23) hX hR dX10_dropDirection_23
  · have h := if_f h h1
    refine v_ldc (pc := 4) hX kc_10_66 dX10_dropDirection_4 ?_
    obtain rfl := Option.some.inj h
    exact v_iret (pc := 6) hX hR dX10_dropDirection_6
set_option maxHeartbeats 4000000 in
set_option maxRecDepth 100000 in
theorem c_X7_add {ad : Nat → Nat} {cs : List Nat} (hcs : ∀ k, 2 ≤ k → k < 5 → k ∈ cs) (M : Mm) (w1 : Int32) (w2 : Int32) (w3 : Int32) (w4 : Int32) (q : Mm) (h : fX7_add M w1 w2 w3 w4 = some q) : CT ad cs yX7_add cX7_add 5 none 0 0 [.ref (ad 2), .int w1, .int w2, .int w3, .int w4] M none q := by
  refine CT.of RX7 (by decide +kernel) rfl (Nat.le_of_ble_eq_true rfl) (fun X hX hR => ?_)
  unfold fX7_add at h
  show VV X 5 ad cs M 0 [(0, .ref (ad 2)), (1, .int w1), (2, .int w2), (3, .int w3), (4, .int w4)] []
  refine v_aload_n (pc := 0) 0 hX dX7_add_0 rfl ?_
  refine v_getI (pc := 1) hX (hcs 2 (Nat.le_of_ble_eq_true rfl) (Nat.le_of_ble_eq_true rfl)) sh_2 fl_7_18 rfl dX7_add_1 ?_
  refine v_bipush (pc := 4) hX dX7_add_4 bp_10 ?_
  refine v_icmp_lt (pc := 6) (tgt := 10) hX dX7_add_6 (by decide) (fun h1 => ?_) (fun h1 => ?_)
  · have h := if_t h h1
    refine v_aload_n (pc := 10) 0 hX dX7_add_10 rfl ?_
    refine v_getR (pc := 11) (t := 3) hX (hcs 2 (Nat.le_of_ble_eq_true rfl) (Nat.le_of_ble_eq_true rfl)) sh_2 fl_7_9 rfl dX7_add_11 ?_
    refine v_aload_n (pc := 14) 0 hX dX7_add_14 rfl ?_
    refine v_getI (pc := 15) hX (hcs 2 (Nat.le_of_ble_eq_true rfl) (Nat.le_of_ble_eq_true rfl)) sh_2 fl_7_18 rfl dX7_add_15 ?_
    refine v_iload_n (pc := 18) 1 hX dX7_add_18 rfl ?_
    obtain ⟨g2, h⟩ := gd_e h
    obtain ⟨M3, eM3, h⟩ := bd_e h
    refine v_iast (pc := 19) hX (hcs 3 (Nat.le_of_ble_eq_true rfl) (Nat.le_of_ble_eq_true rfl)) sh_3 g2 rfl dX7_add_19 eM3 ?_
    refine v_aload_n (pc := 20) 0 hX dX7_add_20 rfl ?_
    refine v_getR (pc := 21) (t := 4) hX (hcs 2 (Nat.le_of_ble_eq_true rfl) (Nat.le_of_ble_eq_true rfl)) sh_2 fl_7_15 rfl dX7_add_21 ?_
    refine v_iconst (pc := 24) hX dX7_add_24 ic_3 ?_
    refine v_aload_n (pc := 25) 0 hX dX7_add_25 rfl ?_
    refine v_getI (pc := 26) hX (hcs 2 (Nat.le_of_ble_eq_true rfl) (Nat.le_of_ble_eq_true rfl)) sh_2 fl_7_18 rfl dX7_add_26 ?_
    refine v_imul (pc := 29) hX dX7_add_29 ?_
    refine v_iload_n (pc := 30) 2 hX dX7_add_30 rfl ?_
    obtain ⟨g4, h⟩ := gd_e h
    obtain ⟨M5, eM5, h⟩ := bd_e h
    refine v_iast (pc := 31) hX (hcs 4 (Nat.le_of_ble_eq_true rfl) (Nat.le_of_ble_eq_true rfl)) sh_4 g4 rfl dX7_add_31 eM5 ?_
    refine v_aload_n (pc := 32) 0 hX dX7_add_32 rfl ?_
    refine v_getR (pc := 33) (t := 4) hX (hcs 2 (Nat.le_of_ble_eq_true rfl) (Nat.le_of_ble_eq_true rfl)) sh_2 fl_7_15 rfl dX7_add_33 ?_
    refine v_iconst (pc := 36) hX dX7_add_36 ic_3 ?_
    refine v_aload_n (pc := 37) 0 hX dX7_add_37 rfl ?_
    refine v_getI (pc := 38) hX (hcs 2 (Nat.le_of_ble_eq_true rfl) (Nat.le_of_ble_eq_true rfl)) sh_2 fl_7_18 rfl dX7_add_38 ?_
    refine v_imul (pc := 41) hX dX7_add_41 ?_
    refine v_iconst (pc := 42) hX dX7_add_42 ic_1 ?_
    refine v_iadd (pc := 43) hX dX7_add_43 ?_
    refine v_iload_n (pc := 44) 3 hX dX7_add_44 rfl ?_
    obtain ⟨g6, h⟩ := gd_e h
    obtain ⟨M7, eM7, h⟩ := bd_e h
    refine v_iast (pc := 45) hX (hcs 4 (Nat.le_of_ble_eq_true rfl) (Nat.le_of_ble_eq_true rfl)) sh_4 g6 rfl dX7_add_45 eM7 ?_
    refine v_aload_n (pc := 46) 0 hX dX7_add_46 rfl ?_
    refine v_getR (pc := 47) (t := 4) hX (hcs 2 (Nat.le_of_ble_eq_true rfl) (Nat.le_of_ble_eq_true rfl)) sh_2 fl_7_15 rfl dX7_add_47 ?_
    refine v_iconst (pc := 50) hX dX7_add_50 ic_3 ?_
    refine v_aload_n (pc := 51) 0 hX dX7_add_51 rfl ?_
    refine v_getI (pc := 52) hX (hcs 2 (Nat.le_of_ble_eq_true rfl) (Nat.le_of_ble_eq_true rfl)) sh_2 fl_7_18 rfl dX7_add_52 ?_
    refine v_imul (pc := 55) hX dX7_add_55 ?_
    refine v_iconst (pc := 56) hX dX7_add_56 ic_2 ?_
    refine v_iadd (pc := 57) hX dX7_add_57 ?_
    refine v_iload (pc := 58) 4 hX dX7_add_58 rfl ?_
    obtain ⟨g8, h⟩ := gd_e h
    obtain ⟨M9, eM9, h⟩ := bd_e h
    refine v_iast (pc := 60) hX (hcs 4 (Nat.le_of_ble_eq_true rfl) (Nat.le_of_ble_eq_true rfl)) sh_4 g8 rfl dX7_add_60 eM9 ?_
    refine v_aload_n (pc := 61) 0 hX dX7_add_61 rfl ?_
    refine v_dup (pc := 62) hX dX7_add_62 rfl ?_
    refine v_getI (pc := 63) hX (hcs 2 (Nat.le_of_ble_eq_true rfl) (Nat.le_of_ble_eq_true rfl)) sh_2 fl_7_18 rfl dX7_add_63 ?_
    refine v_iconst (pc := 66) hX dX7_add_66 ic_1 ?_
    refine v_iadd (pc := 67) hX dX7_add_67 ?_
    obtain ⟨M10, eM10, h⟩ := bd_e h
    refine v_putI (pc := 68) hX (hcs 2 (Nat.le_of_ble_eq_true rfl) (Nat.le_of_ble_eq_true rfl)) sh_2 pl_7_18 rfl dX7_add_68 eM10 ?_
    obtain rfl := Option.some.inj h
    exact v_vret (pc := 71) hX hR dX7_add_71
  · have h := if_f h h1
    obtain rfl := Option.some.inj h
    exact v_vret (pc := 9) hX hR dX7_add_9
set_option maxHeartbeats 4000000 in
set_option maxRecDepth 100000 in
theorem c_X10_term {ad : Nat → Nat} {cs : List Nat} (hcs : ∀ k, 0 ≤ k → k < 67 → k ∈ cs) (M : Mm) (w1 : Int32) (w2 : Int32) (w3 : Int32) (w4 : Int32) (q : Int32 × Mm) (h : fX10_term M w1 w2 w3 w4 = some q) : CT ad cs yX10_term cX10_term 5 (some .int) 4 89 [.ref (ad 0), .int w1, .int w2, .int w3, .int w4] M (some (.int q.1)) q.2 := by
  refine CT.of RX10 (by decide +kernel) rfl (Nat.le_of_ble_eq_true rfl) (fun X hX hR => ?_)
  unfold fX10_term at h
  show VV X 5 ad cs M 0 [(0, .ref (ad 0)), (1, .int w1), (2, .int w2), (3, .int w3), (4, .int w4)] []
  refine v_iload_n (pc := 0) 1 hX dX10_term_0 rfl ?_
  refine v_bipush (pc := 1) hX dX10_term_1 bp_m99 ?_
  refine v_bipush (pc := 3) hX dX10_term_3 bp_99 ?_
  obtain ⟨x2, h1, h⟩ := b1_e h
  refine v_callS (pc := 5) [.int w1, .int (-99), .int 99] (some (.int x2)) M hX cv_10_62 (c_X10_within M w1 (-99) 99 x2 h1) rfl rfl ⟨Nat.le_of_ble_eq_true rfl, Nat.le_of_ble_eq_true rfl⟩ (Nat.le_of_ble_eq_true rfl) dX10_term_5 ?_
  show VV X 5 ad cs M 8 [(0, .ref (ad 0)), (1, .int w1), (2, .int w2), (3, .int w3), (4, .int w4)] [.int x2]
  refine v_if_eq (pc := 8) (tgt := 15) hX dX10_term_8 (by decide) (fun h3 => ?_) (fun h3 => ?_)
  · have h := if_t h h3
    refine v_ldc (pc := 15) hX kc_10_66 dX10_term_15 ?_
    obtain rfl := Option.some.inj h
    exact v_iret (pc := 17) hX hR dX10_term_17
  · have h := if_f h h3
    refine v_iload_n (pc := 11) 1 hX dX10_term_11 rfl ?_
    refine v_if_ne (pc := 12) (tgt := 18) hX dX10_term_12 (by decide) (fun h4 => ?_) (fun h4 => ?_)
    · have h := if_f h h4
      refine v_aload_n (pc := 18) 0 hX dX10_term_18 rfl ?_
      refine v_getR (pc := 19) (t := 1) hX (hcs 0 (Nat.le_of_ble_eq_true rfl) (Nat.le_of_ble_eq_true rfl)) sh_0 fl_10_10 rfl dX10_term_19 ?_
      refine v_iload_n (pc := 22) 2 hX dX10_term_22 rfl ?_
      refine v_iload_n (pc := 23) 3 hX dX10_term_23 rfl ?_
      refine v_iload (pc := 24) 4 hX dX10_term_24 rfl ?_
      refine v_iconst (pc := 26) hX dX10_term_26 ic_0 ?_
      refine v_iconst (pc := 27) hX dX10_term_27 ic_4 ?_
      obtain ⟨x6, h5, h⟩ := b1_e h
      refine v_callV (pc := 28) [.int w2, .int w3, .int w4, .int 0, .int 4] (some (.int x6)) M hX cv_10_75 (c_X6_fit (sub_cs hcs (Nat.le_of_ble_eq_true rfl) (Nat.le_of_ble_eq_true rfl)) M w2 w3 w4 0 4 x6 h5) (hcs 1 (Nat.le_of_ble_eq_true rfl) (Nat.le_of_ble_eq_true rfl)) sh_1 rfl rfl rfl ⟨Nat.le_of_ble_eq_true rfl, Nat.le_of_ble_eq_true rfl⟩ (Nat.le_of_ble_eq_true rfl) dX10_term_28 ?_
      show VV X 5 ad cs M 31 [(0, .ref (ad 0)), (1, .int w1), (2, .int w2), (3, .int w3), (4, .int w4)] [.int x6]
      refine v_if_eq (pc := 31) (tgt := 44) hX dX10_term_31 (by decide) (fun h7 => ?_) (fun h7 => ?_)
      · have h := if_t h h7
        refine v_ldc (pc := 44) hX kc_10_66 dX10_term_44 ?_
        obtain rfl := Option.some.inj h
        exact v_iret (pc := 46) hX hR dX10_term_46
      · have h := if_f h h7
        refine v_iload_n (pc := 34) 2 hX dX10_term_34 rfl ?_
        refine v_iload_n (pc := 35) 3 hX dX10_term_35 rfl ?_
        refine v_iadd (pc := 36) hX dX10_term_36 ?_
        refine v_iload (pc := 37) 4 hX dX10_term_37 rfl ?_
        refine v_iadd (pc := 39) hX dX10_term_39 ?_
        refine v_iconst (pc := 40) hX dX10_term_40 ic_4 ?_
        refine v_icmp_le (pc := 41) (tgt := 47) hX dX10_term_41 (by decide) (fun h8 => ?_) (fun h8 => ?_)
        · have h := if_t h h8
          refine v_aload_n (pc := 47) 0 hX dX10_term_47 rfl ?_
          refine v_getR (pc := 48) (t := 1) hX (hcs 0 (Nat.le_of_ble_eq_true rfl) (Nat.le_of_ble_eq_true rfl)) sh_0 fl_10_10 rfl dX10_term_48 ?_
          refine v_getR (pc := 51) (t := 2) hX (hcs 1 (Nat.le_of_ble_eq_true rfl) (Nat.le_of_ble_eq_true rfl)) sh_1 fl_10_79 rfl dX10_term_51 ?_
          refine v_getI (pc := 54) hX (hcs 2 (Nat.le_of_ble_eq_true rfl) (Nat.le_of_ble_eq_true rfl)) sh_2 fl_10_83 rfl dX10_term_54 ?_
          refine v_bipush (pc := 57) hX dX10_term_57 bp_10 ?_
          refine v_icmp_lt (pc := 59) (tgt := 65) hX dX10_term_59 (by decide) (fun h9 => ?_) (fun h9 => ?_)
          · have h := if_t h h9
            refine v_aload_n (pc := 65) 0 hX dX10_term_65 rfl ?_
            refine v_getR (pc := 66) (t := 14) hX (hcs 0 (Nat.le_of_ble_eq_true rfl) (Nat.le_of_ble_eq_true rfl)) sh_0 fl_10_23 rfl dX10_term_66 ?_
            refine v_aload_n (pc := 69) 0 hX dX10_term_69 rfl ?_
            refine v_getR (pc := 70) (t := 1) hX (hcs 0 (Nat.le_of_ble_eq_true rfl) (Nat.le_of_ble_eq_true rfl)) sh_0 fl_10_10 rfl dX10_term_70 ?_
            obtain ⟨M11, h10, h⟩ := b1_e h
            refine v_callV (pc := 73) [.ref (ad 1)] none M11 hX cv_10_71 (c_X2_push (sub_cs hcs (Nat.le_of_ble_eq_true rfl) (Nat.le_of_ble_eq_true rfl)) M M11 h10) (hcs 14 (Nat.le_of_ble_eq_true rfl) (Nat.le_of_ble_eq_true rfl)) sh_14 rfl rfl rfl ⟨Nat.le_of_ble_eq_true rfl, Nat.le_of_ble_eq_true rfl⟩ (Nat.le_of_ble_eq_true rfl) dX10_term_73 ?_
            show VV X 5 ad cs M11 76 [(0, .ref (ad 0)), (1, .int w1), (2, .int w2), (3, .int w3), (4, .int w4)] []
            refine v_aload_n (pc := 76) 0 hX dX10_term_76 rfl ?_
            refine v_getR (pc := 77) (t := 1) hX (hcs 0 (Nat.le_of_ble_eq_true rfl) (Nat.le_of_ble_eq_true rfl)) sh_0 fl_10_10 rfl dX10_term_77 ?_
            refine v_getR (pc := 80) (t := 2) hX (hcs 1 (Nat.le_of_ble_eq_true rfl) (Nat.le_of_ble_eq_true rfl)) sh_1 fl_10_79 rfl dX10_term_80 ?_
            refine v_iload_n (pc := 83) 1 hX dX10_term_83 rfl ?_
            refine v_iload_n (pc := 84) 2 hX dX10_term_84 rfl ?_
            refine v_iload_n (pc := 85) 3 hX dX10_term_85 rfl ?_
            refine v_iload (pc := 86) 4 hX dX10_term_86 rfl ?_
            obtain ⟨M13, h12, h⟩ := b1_e h
            refine v_callV (pc := 88) [.int w1, .int w2, .int w3, .int w4] none M13 hX cv_10_89 (c_X7_add (sub_cs hcs (Nat.le_of_ble_eq_true rfl) (Nat.le_of_ble_eq_true rfl)) M11 w1 w2 w3 w4 M13 h12) (hcs 2 (Nat.le_of_ble_eq_true rfl) (Nat.le_of_ble_eq_true rfl)) sh_2 rfl rfl rfl ⟨Nat.le_of_ble_eq_true rfl, Nat.le_of_ble_eq_true rfl⟩ (Nat.le_of_ble_eq_true rfl) dX10_term_88 ?_
            show VV X 5 ad cs M13 91 [(0, .ref (ad 0)), (1, .int w1), (2, .int w2), (3, .int w3), (4, .int w4)] []
            refine v_aload_n (pc := 91) 0 hX dX10_term_91 rfl ?_
            refine v_getR (pc := 92) (t := 1) hX (hcs 0 (Nat.le_of_ble_eq_true rfl) (Nat.le_of_ble_eq_true rfl)) sh_0 fl_10_10 rfl dX10_term_92 ?_
            refine v_getR (pc := 95) (t := 2) hX (hcs 1 (Nat.le_of_ble_eq_true rfl) (Nat.le_of_ble_eq_true rfl)) sh_1 fl_10_79 rfl dX10_term_95 ?_
            refine v_getI (pc := 98) hX (hcs 2 (Nat.le_of_ble_eq_true rfl) (Nat.le_of_ble_eq_true rfl)) sh_2 fl_10_83 rfl dX10_term_98 ?_
            obtain rfl := Option.some.inj h
            exact v_iret (pc := 101) hX hR dX10_term_101
          · have h := if_f h h9
            refine v_ldc (pc := 62) hX kc_10_88 dX10_term_62 ?_
            obtain rfl := Option.some.inj h
            exact v_iret (pc := 64) hX hR dX10_term_64
        · have h := if_f h h8
          refine v_ldc (pc := 44) hX kc_10_66 dX10_term_44 ?_
          obtain rfl := Option.some.inj h
          exact v_iret (pc := 46) hX hR dX10_term_46
    · have h := if_t h h4
      refine v_ldc (pc := 15) hX kc_10_66 dX10_term_15 ?_
      obtain rfl := Option.some.inj h
      exact v_iret (pc := 17) hX hR dX10_term_17
set_option maxHeartbeats 4000000 in
set_option maxRecDepth 100000 in
theorem c_X5_addAlong {ad : Nat → Nat} {cs : List Nat} (hcs : ∀ k, 92 ≤ k → k < 94 → k ∈ cs) (M : Mm) (w1 : Int32) (w2 : Int32) (q : Mm) (h : fX5_addAlong M w1 w2 = some q) : CT ad cs yX5_addAlong cX5_addAlong 4 none 0 0 [.ref (ad 92), .int w1, .int w2] M none q := by
  refine CT.of RX5 (by decide +kernel) rfl (Nat.le_of_ble_eq_true rfl) (fun X hX hR => ?_)
  unfold fX5_addAlong at h
  show VV X 4 ad cs M 0 [(0, .ref (ad 92)), (1, .int w1), (2, .int w2)] []
  refine v_iconst (pc := 0) hX dX5_addAlong_0 ic_0 ?_
  refine v_istore_n (pc := 1) [(3, .int 0), (0, .ref (ad 92)), (1, .int w1), (2, .int w2)] hX dX5_addAlong_1 (by decide) rfl ?_
  have L11 := v_itr (fX5_addAlong_L2 w1 w2) (fun z => VV X 4 ad cs z.2 2 [(0, .ref (ad 92)), (1, .int w1), (2, .int w2), (3, .int z.1)] []) (fun z => VV X 4 ad cs z 36 [(0, .ref (ad 92))] []) (by
    rintro ⟨x1, M2⟩ q h hK
    unfold fX5_addAlong_L2 at h
    have h := u2_b h
    show VV X 4 ad cs M2 2 [(0, .ref (ad 92)), (1, .int w1), (2, .int w2), (3, .int x1)] []
    refine v_iload_n (pc := 2) 3 hX dX5_addAlong_2 rfl ?_
    refine v_iconst (pc := 3) hX dX5_addAlong_3 ic_3 ?_
    refine v_icmp_ge (pc := 4) (tgt := 36) hX dX5_addAlong_4 (by decide) (fun h3 => ?_) (fun h3 => ?_)
    · have h := if_t h h3
      obtain rfl := Option.some.inj h
      exact v_sub [0] rfl hK
    · have h := if_f h h3
      refine v_aload_n (pc := 7) 0 hX dX5_addAlong_7 rfl ?_
      refine v_getR (pc := 8) (t := 93) hX (hcs 92 (Nat.le_of_ble_eq_true rfl) (Nat.le_of_ble_eq_true rfl)) sh_92 fl_5_9 rfl dX5_addAlong_8 ?_
      refine v_iconst (pc := 11) hX dX5_addAlong_11 ic_3 ?_
      refine v_aload_n (pc := 12) 0 hX dX5_addAlong_12 rfl ?_
      refine v_getI (pc := 13) hX (hcs 92 (Nat.le_of_ble_eq_true rfl) (Nat.le_of_ble_eq_true rfl)) sh_92 fl_5_22 rfl dX5_addAlong_13 ?_
      refine v_imul (pc := 16) hX dX5_addAlong_16 ?_
      refine v_iload_n (pc := 17) 3 hX dX5_addAlong_17 rfl ?_
      refine v_iadd (pc := 18) hX dX5_addAlong_18 ?_
      refine v_iload_n (pc := 19) 3 hX dX5_addAlong_19 rfl ?_
      refine v_iload_n (pc := 20) 1 hX dX5_addAlong_20 rfl ?_
      obtain ⟨k4, ek4, h⟩ := bd_e h
      have K5 : ∀ (x6 : Int32), k4 x6 = some q → VV X 4 ad cs M2 29 [(0, .ref (ad 92)), (1, .int w1), (2, .int w2), (3, .int x1)] [.int x6, .int ((3 * (M2.1 92 0)) + x1), .ref (ad 93)] := by
        intro x6 h
        subst ek4
        obtain ⟨g7, h⟩ := gd_e h
        obtain ⟨M8, eM8, h⟩ := bd_e h
        refine v_iast (pc := 29) hX (hcs 93 (Nat.le_of_ble_eq_true rfl) (Nat.le_of_ble_eq_true rfl)) sh_93 g7 rfl dX5_addAlong_29 eM8 ?_
        obtain ⟨x9, ex9, h⟩ := bd_e h
        refine v_iinc (v := x9) (pc := 30) 3 [(3, .int x9), (0, .ref (ad 92)), (1, .int w1), (2, .int w2)] hX dX5_addAlong_30 rfl (ex9.trans (by rw [ic_1])) (by decide) rfl ?_
        refine v_goto (pc := 33) (tgt := 2) hX dX5_addAlong_33 (by decide) ?_
        obtain rfl := Option.some.inj h
        exact v_sub [1, 2, 3, 0] rfl hK
      refine v_icmp_ne (pc := 21) (tgt := 28) hX dX5_addAlong_21 (by decide) (fun h10 => ?_) (fun h10 => ?_)
      · have h := if_f h h10
        refine v_iconst (pc := 28) hX dX5_addAlong_28 ic_0 ?_
        exact v_sub [0, 1, 2, 3] rfl (K5 0 h)
      · have h := if_t h h10
        refine v_iload_n (pc := 24) 2 hX dX5_addAlong_24 rfl ?_
        refine v_goto (pc := 25) (tgt := 29) hX dX5_addAlong_25 (by decide) ?_
        exact v_sub [0, 1, 2, 3] rfl (K5 w2 h)
  )
  obtain ⟨M12, h14, h⟩ := b1_e h
  refine v_sub [1, 2, 3, 0] rfl ?_
  refine L11 1000 _ _ h14 ?_
  show VV X 4 ad cs M12 36 [(0, .ref (ad 92))] []
  refine v_aload_n (pc := 36) 0 hX dX5_addAlong_36 rfl ?_
  refine v_dup (pc := 37) hX dX5_addAlong_37 rfl ?_
  refine v_getI (pc := 38) hX (hcs 92 (Nat.le_of_ble_eq_true rfl) (Nat.le_of_ble_eq_true rfl)) sh_92 fl_5_22 rfl dX5_addAlong_38 ?_
  refine v_iconst (pc := 41) hX dX5_addAlong_41 ic_1 ?_
  refine v_iadd (pc := 42) hX dX5_addAlong_42 ?_
  obtain ⟨M13, eM13, h⟩ := bd_e h
  refine v_putI (pc := 43) hX (hcs 92 (Nat.le_of_ble_eq_true rfl) (Nat.le_of_ble_eq_true rfl)) sh_92 pl_5_22 rfl dX5_addAlong_43 eM13 ?_
  obtain rfl := Option.some.inj h
  exact v_vret (pc := 46) hX hR dX5_addAlong_46
set_option maxHeartbeats 4000000 in
set_option maxRecDepth 100000 in
theorem c_X5_fill {ad : Nat → Nat} {cs : List Nat} (hcs : ∀ k, 8 ≤ k → k < 94 → k ∈ cs) (M : Mm) (w2 : Int32) (q : Mm) (h : fX5_fill M w2 = some q) : CT ad cs yX5_fill cX5_fill 4 none 1 26 [.ref (ad 92), .ref (ad 8), .int w2] M none q := by
  refine CT.of RX5 (by decide +kernel) rfl (Nat.le_of_ble_eq_true rfl) (fun X hX hR => ?_)
  unfold fX5_fill at h
  show VV X 4 ad cs M 0 [(0, .ref (ad 92)), (1, .ref (ad 8)), (2, .int w2)] []
  refine v_aload_n (pc := 0) 0 hX dX5_fill_0 rfl ?_
  refine v_aload_n (pc := 1) 1 hX dX5_fill_1 rfl ?_
  refine v_getI (pc := 2) hX (hcs 8 (Nat.le_of_ble_eq_true rfl) (Nat.le_of_ble_eq_true rfl)) sh_8 fl_5_34 rfl dX5_fill_2 ?_
  obtain ⟨M1, eM1, h⟩ := bd_e h
  refine v_putI (pc := 5) hX (hcs 92 (Nat.le_of_ble_eq_true rfl) (Nat.le_of_ble_eq_true rfl)) sh_92 pl_5_22 rfl dX5_fill_5 eM1 ?_
  refine v_aload_n (pc := 8) 1 hX dX5_fill_8 rfl ?_
  refine v_getR (pc := 9) (t := 9) hX (hcs 8 (Nat.le_of_ble_eq_true rfl) (Nat.le_of_ble_eq_true rfl)) sh_8 fl_5_37 rfl dX5_fill_9 ?_
  refine v_iconst (pc := 12) hX dX5_fill_12 ic_0 ?_
  refine v_aload_n (pc := 13) 0 hX dX5_fill_13 rfl ?_
  refine v_getR (pc := 14) (t := 93) hX (hcs 92 (Nat.le_of_ble_eq_true rfl) (Nat.le_of_ble_eq_true rfl)) sh_92 fl_5_9 rfl dX5_fill_14 ?_
  refine v_iconst (pc := 17) hX dX5_fill_17 ic_0 ?_
  refine v_iconst (pc := 18) hX dX5_fill_18 ic_3 ?_
  refine v_aload_n (pc := 19) 0 hX dX5_fill_19 rfl ?_
  refine v_getI (pc := 20) hX (hcs 92 (Nat.le_of_ble_eq_true rfl) (Nat.le_of_ble_eq_true rfl)) sh_92 fl_5_22 rfl dX5_fill_20 ?_
  refine v_imul (pc := 23) hX dX5_fill_23 ?_
  obtain ⟨g3, h⟩ := gd_e h
  obtain ⟨M2, eM2, h⟩ := bd_e h
  refine v_copy (pc := 24) hX cm_5_40 (hcs 9 (Nat.le_of_ble_eq_true rfl) (Nat.le_of_ble_eq_true rfl)) (hcs 93 (Nat.le_of_ble_eq_true rfl) (Nat.le_of_ble_eq_true rfl)) sh_9 sh_93 nn_0 nn_0 (nn_of g3.1) ix_0 ix_0 rfl g3.2.1 g3.2.2 (Nat.le_of_ble_eq_true rfl) (Nat.le_of_ble_eq_true rfl) dX5_fill_24 eM2 ?_
  refine v_iload_n (pc := 27) 2 hX dX5_fill_27 rfl ?_
  refine v_istore_n (pc := 28) [(3, .int w2), (0, .ref (ad 92)), (1, .ref (ad 8)), (2, .int w2)] hX dX5_fill_28 (by decide) rfl ?_
  have L12 := v_itr (fX5_fill_L29) (fun z => VV X 4 ad cs z.2 29 [(0, .ref (ad 92)), (3, .int z.1)] []) (fun z => VV X 4 ad cs z 52 [] []) (by
    rintro ⟨x4, M5⟩ q h hK
    unfold fX5_fill_L29 at h
    have h := u2_b h
    show VV X 4 ad cs M5 29 [(0, .ref (ad 92)), (3, .int x4)] []
    refine v_iload_n (pc := 29) 1 hX dX5_fill_29 rfl ?_
    refine v_iconst (pc := 30) hX dX5_fill_30 ic_3 ?_
    refine v_icmp_ge (pc := 31) (tgt := 52) hX dX5_fill_31 (by decide) (fun h6 => ?_) (fun h6 => ?_)
    · have h := if_t h h6
      obtain rfl := Option.some.inj h
      exact v_sub [] rfl hK
    · have h := if_f h h6
      refine v_aload_n (pc := 34) 0 hX dX5_fill_34 rfl ?_
      refine v_iload_n (pc := 35) 1 hX dX5_fill_35 rfl ?_
      refine v_iconst (pc := 36) hX dX5_fill_36 ic_1 ?_
      obtain ⟨M8, h7, h⟩ := b1_e h
      refine v_callV (pc := 37) [.int x4, .int 1] none M8 hX cv_5_46 (c_X5_addAlong (sub_cs hcs (Nat.le_of_ble_eq_true rfl) (Nat.le_of_ble_eq_true rfl)) M5 x4 1 M8 h7) (hcs 92 (Nat.le_of_ble_eq_true rfl) (Nat.le_of_ble_eq_true rfl)) sh_92 rfl rfl rfl ⟨Nat.le_of_ble_eq_true rfl, Nat.le_of_ble_eq_true rfl⟩ (Nat.le_of_ble_eq_true rfl) dX5_fill_37 ?_
      show VV X 4 ad cs M8 40 [(0, .ref (ad 92)), (3, .int x4)] []
      refine v_aload_n (pc := 40) 0 hX dX5_fill_40 rfl ?_
      refine v_iload_n (pc := 41) 1 hX dX5_fill_41 rfl ?_
      refine v_iconst (pc := 42) hX dX5_fill_42 ic_m1 ?_
      obtain ⟨M10, h9, h⟩ := b1_e h
      refine v_callV (pc := 43) [.int x4, .int (-1)] none M10 hX cv_5_46 (c_X5_addAlong (sub_cs hcs (Nat.le_of_ble_eq_true rfl) (Nat.le_of_ble_eq_true rfl)) M8 x4 (-1) M10 h9) (hcs 92 (Nat.le_of_ble_eq_true rfl) (Nat.le_of_ble_eq_true rfl)) sh_92 rfl rfl rfl ⟨Nat.le_of_ble_eq_true rfl, Nat.le_of_ble_eq_true rfl⟩ (Nat.le_of_ble_eq_true rfl) dX5_fill_43 ?_
      show VV X 4 ad cs M10 46 [(0, .ref (ad 92)), (3, .int x4)] []
      obtain ⟨x11, ex11, h⟩ := bd_e h
      refine v_iinc (v := x11) (pc := 46) 1 [(3, .int x11), (0, .ref (ad 92))] hX dX5_fill_46 rfl (ex11.trans (by rw [ic_1])) (by decide) rfl ?_
      refine v_goto (pc := 49) (tgt := 29) hX dX5_fill_49 (by decide) ?_
      obtain rfl := Option.some.inj h
      exact v_sub [1, 0] rfl hK
  )
  obtain ⟨M13, h14, h⟩ := b1_e h
  refine v_sub [1, 0] rfl ?_
  refine L12 1000 _ _ h14 ?_
  show VV X 4 ad cs M13 52 [] []
  obtain rfl := Option.some.inj h
  exact v_vret (pc := 52) hX hR dX5_fill_52
set_option maxHeartbeats 4000000 in
set_option maxRecDepth 100000 in
theorem c_X5_findNormal {ad : Nat → Nat} {cs : List Nat} (hcs : ∀ k, 92 ≤ k → k < 95 → k ∈ cs) (M : Mm) (w1 : Int32) (w2 : Int32) (q : Int32 × Mm) (h : fX5_findNormal M w1 w2 = some q) : CT ad cs yX5_findNormal cX5_findNormal 3 (some .boolean) 0 0 [.ref (ad 92), .int w1, .int w2] M (some (.int q.1)) q.2 := by
  refine CT.of RX5 (by decide +kernel) rfl (Nat.le_of_ble_eq_true rfl) (fun X hX hR => ?_)
  unfold fX5_findNormal at h
  show VV X 3 ad cs M 0 [(0, .ref (ad 92)), (1, .int w1), (2, .int w2)] []
  refine v_aload_n (pc := 0) 0 hX dX5_findNormal_0 rfl ?_
  refine v_getR (pc := 1) (t := 94) hX (hcs 92 (Nat.le_of_ble_eq_true rfl) (Nat.le_of_ble_eq_true rfl)) sh_92 fl_5_15 rfl dX5_findNormal_1 ?_
  refine v_iconst (pc := 4) hX dX5_findNormal_4 ic_0 ?_
  refine v_aload_n (pc := 5) 0 hX dX5_findNormal_5 rfl ?_
  refine v_getR (pc := 6) (t := 93) hX (hcs 92 (Nat.le_of_ble_eq_true rfl) (Nat.le_of_ble_eq_true rfl)) sh_92 fl_5_9 rfl dX5_findNormal_6 ?_
  refine v_iload_n (pc := 9) 1 hX dX5_findNormal_9 rfl ?_
  refine v_iconst (pc := 10) hX dX5_findNormal_10 ic_1 ?_
  refine v_iadd (pc := 11) hX dX5_findNormal_11 ?_
  obtain ⟨g1, h⟩ := gd_e h
  refine v_iald (pc := 12) hX (hcs 93 (Nat.le_of_ble_eq_true rfl) (Nat.le_of_ble_eq_true rfl)) sh_93 g1 rfl dX5_findNormal_12 ?_
  refine v_aload_n (pc := 13) 0 hX dX5_findNormal_13 rfl ?_
  refine v_getR (pc := 14) (t := 93) hX (hcs 92 (Nat.le_of_ble_eq_true rfl) (Nat.le_of_ble_eq_true rfl)) sh_92 fl_5_9 rfl dX5_findNormal_14 ?_
  refine v_iload_n (pc := 17) 2 hX dX5_findNormal_17 rfl ?_
  refine v_iconst (pc := 18) hX dX5_findNormal_18 ic_2 ?_
  refine v_iadd (pc := 19) hX dX5_findNormal_19 ?_
  obtain ⟨g2, h⟩ := gd_e h
  refine v_iald (pc := 20) hX (hcs 93 (Nat.le_of_ble_eq_true rfl) (Nat.le_of_ble_eq_true rfl)) sh_93 g2 rfl dX5_findNormal_20 ?_
  refine v_imul (pc := 21) hX dX5_findNormal_21 ?_
  refine v_aload_n (pc := 22) 0 hX dX5_findNormal_22 rfl ?_
  refine v_getR (pc := 23) (t := 93) hX (hcs 92 (Nat.le_of_ble_eq_true rfl) (Nat.le_of_ble_eq_true rfl)) sh_92 fl_5_9 rfl dX5_findNormal_23 ?_
  refine v_iload_n (pc := 26) 1 hX dX5_findNormal_26 rfl ?_
  refine v_iconst (pc := 27) hX dX5_findNormal_27 ic_2 ?_
  refine v_iadd (pc := 28) hX dX5_findNormal_28 ?_
  obtain ⟨g3, h⟩ := gd_e h
  refine v_iald (pc := 29) hX (hcs 93 (Nat.le_of_ble_eq_true rfl) (Nat.le_of_ble_eq_true rfl)) sh_93 g3 rfl dX5_findNormal_29 ?_
  refine v_aload_n (pc := 30) 0 hX dX5_findNormal_30 rfl ?_
  refine v_getR (pc := 31) (t := 93) hX (hcs 92 (Nat.le_of_ble_eq_true rfl) (Nat.le_of_ble_eq_true rfl)) sh_92 fl_5_9 rfl dX5_findNormal_31 ?_
  refine v_iload_n (pc := 34) 2 hX dX5_findNormal_34 rfl ?_
  refine v_iconst (pc := 35) hX dX5_findNormal_35 ic_1 ?_
  refine v_iadd (pc := 36) hX dX5_findNormal_36 ?_
  obtain ⟨g4, h⟩ := gd_e h
  refine v_iald (pc := 37) hX (hcs 93 (Nat.le_of_ble_eq_true rfl) (Nat.le_of_ble_eq_true rfl)) sh_93 g4 rfl dX5_findNormal_37 ?_
  refine v_imul (pc := 38) hX dX5_findNormal_38 ?_
  refine v_isub (pc := 39) hX dX5_findNormal_39 ?_
  obtain ⟨M5, eM5, h⟩ := bd_e h
  refine v_iast (pc := 40) hX (hcs 94 (Nat.le_of_ble_eq_true rfl) (Nat.le_of_ble_eq_true rfl)) sh_94 (ib_0 (by decide)) ix_0 dX5_findNormal_40 eM5 ?_
  refine v_aload_n (pc := 41) 0 hX dX5_findNormal_41 rfl ?_
  refine v_getR (pc := 42) (t := 94) hX (hcs 92 (Nat.le_of_ble_eq_true rfl) (Nat.le_of_ble_eq_true rfl)) sh_92 fl_5_15 rfl dX5_findNormal_42 ?_
  refine v_iconst (pc := 45) hX dX5_findNormal_45 ic_1 ?_
  refine v_aload_n (pc := 46) 0 hX dX5_findNormal_46 rfl ?_
  refine v_getR (pc := 47) (t := 93) hX (hcs 92 (Nat.le_of_ble_eq_true rfl) (Nat.le_of_ble_eq_true rfl)) sh_92 fl_5_9 rfl dX5_findNormal_47 ?_
  refine v_iload_n (pc := 50) 1 hX dX5_findNormal_50 rfl ?_
  refine v_iconst (pc := 51) hX dX5_findNormal_51 ic_2 ?_
  refine v_iadd (pc := 52) hX dX5_findNormal_52 ?_
  refine v_iald (pc := 53) hX (hcs 93 (Nat.le_of_ble_eq_true rfl) (Nat.le_of_ble_eq_true rfl)) sh_93 g3 rfl dX5_findNormal_53 ?_
  refine v_aload_n (pc := 54) 0 hX dX5_findNormal_54 rfl ?_
  refine v_getR (pc := 55) (t := 93) hX (hcs 92 (Nat.le_of_ble_eq_true rfl) (Nat.le_of_ble_eq_true rfl)) sh_92 fl_5_9 rfl dX5_findNormal_55 ?_
  refine v_iload_n (pc := 58) 2 hX dX5_findNormal_58 rfl ?_
  obtain ⟨g6, h⟩ := gd_e h
  refine v_iald (pc := 59) hX (hcs 93 (Nat.le_of_ble_eq_true rfl) (Nat.le_of_ble_eq_true rfl)) sh_93 g6 rfl dX5_findNormal_59 ?_
  refine v_imul (pc := 60) hX dX5_findNormal_60 ?_
  refine v_aload_n (pc := 61) 0 hX dX5_findNormal_61 rfl ?_
  refine v_getR (pc := 62) (t := 93) hX (hcs 92 (Nat.le_of_ble_eq_true rfl) (Nat.le_of_ble_eq_true rfl)) sh_92 fl_5_9 rfl dX5_findNormal_62 ?_
  refine v_iload_n (pc := 65) 1 hX dX5_findNormal_65 rfl ?_
  obtain ⟨g7, h⟩ := gd_e h
  refine v_iald (pc := 66) hX (hcs 93 (Nat.le_of_ble_eq_true rfl) (Nat.le_of_ble_eq_true rfl)) sh_93 g7 rfl dX5_findNormal_66 ?_
  refine v_aload_n (pc := 67) 0 hX dX5_findNormal_67 rfl ?_
  refine v_getR (pc := 68) (t := 93) hX (hcs 92 (Nat.le_of_ble_eq_true rfl) (Nat.le_of_ble_eq_true rfl)) sh_92 fl_5_9 rfl dX5_findNormal_68 ?_
  refine v_iload_n (pc := 71) 2 hX dX5_findNormal_71 rfl ?_
  refine v_iconst (pc := 72) hX dX5_findNormal_72 ic_2 ?_
  refine v_iadd (pc := 73) hX dX5_findNormal_73 ?_
  refine v_iald (pc := 74) hX (hcs 93 (Nat.le_of_ble_eq_true rfl) (Nat.le_of_ble_eq_true rfl)) sh_93 g2 rfl dX5_findNormal_74 ?_
  refine v_imul (pc := 75) hX dX5_findNormal_75 ?_
  refine v_isub (pc := 76) hX dX5_findNormal_76 ?_
  obtain ⟨M8, eM8, h⟩ := bd_e h
  refine v_iast (pc := 77) hX (hcs 94 (Nat.le_of_ble_eq_true rfl) (Nat.le_of_ble_eq_true rfl)) sh_94 (ib_1 (by decide)) ix_1 dX5_findNormal_77 eM8 ?_
  refine v_aload_n (pc := 78) 0 hX dX5_findNormal_78 rfl ?_
  refine v_getR (pc := 79) (t := 94) hX (hcs 92 (Nat.le_of_ble_eq_true rfl) (Nat.le_of_ble_eq_true rfl)) sh_92 fl_5_15 rfl dX5_findNormal_79 ?_
  refine v_iconst (pc := 82) hX dX5_findNormal_82 ic_2 ?_
  refine v_aload_n (pc := 83) 0 hX dX5_findNormal_83 rfl ?_
  refine v_getR (pc := 84) (t := 93) hX (hcs 92 (Nat.le_of_ble_eq_true rfl) (Nat.le_of_ble_eq_true rfl)) sh_92 fl_5_9 rfl dX5_findNormal_84 ?_
  refine v_iload_n (pc := 87) 1 hX dX5_findNormal_87 rfl ?_
  refine v_iald (pc := 88) hX (hcs 93 (Nat.le_of_ble_eq_true rfl) (Nat.le_of_ble_eq_true rfl)) sh_93 g7 rfl dX5_findNormal_88 ?_
  refine v_aload_n (pc := 89) 0 hX dX5_findNormal_89 rfl ?_
  refine v_getR (pc := 90) (t := 93) hX (hcs 92 (Nat.le_of_ble_eq_true rfl) (Nat.le_of_ble_eq_true rfl)) sh_92 fl_5_9 rfl dX5_findNormal_90 ?_
  refine v_iload_n (pc := 93) 2 hX dX5_findNormal_93 rfl ?_
  refine v_iconst (pc := 94) hX dX5_findNormal_94 ic_1 ?_
  refine v_iadd (pc := 95) hX dX5_findNormal_95 ?_
  refine v_iald (pc := 96) hX (hcs 93 (Nat.le_of_ble_eq_true rfl) (Nat.le_of_ble_eq_true rfl)) sh_93 g4 rfl dX5_findNormal_96 ?_
  refine v_imul (pc := 97) hX dX5_findNormal_97 ?_
  refine v_aload_n (pc := 98) 0 hX dX5_findNormal_98 rfl ?_
  refine v_getR (pc := 99) (t := 93) hX (hcs 92 (Nat.le_of_ble_eq_true rfl) (Nat.le_of_ble_eq_true rfl)) sh_92 fl_5_9 rfl dX5_findNormal_99 ?_
  refine v_iload_n (pc := 102) 1 hX dX5_findNormal_102 rfl ?_
  refine v_iconst (pc := 103) hX dX5_findNormal_103 ic_1 ?_
  refine v_iadd (pc := 104) hX dX5_findNormal_104 ?_
  refine v_iald (pc := 105) hX (hcs 93 (Nat.le_of_ble_eq_true rfl) (Nat.le_of_ble_eq_true rfl)) sh_93 g1 rfl dX5_findNormal_105 ?_
  refine v_aload_n (pc := 106) 0 hX dX5_findNormal_106 rfl ?_
  refine v_getR (pc := 107) (t := 93) hX (hcs 92 (Nat.le_of_ble_eq_true rfl) (Nat.le_of_ble_eq_true rfl)) sh_92 fl_5_9 rfl dX5_findNormal_107 ?_
  refine v_iload_n (pc := 110) 2 hX dX5_findNormal_110 rfl ?_
  refine v_iald (pc := 111) hX (hcs 93 (Nat.le_of_ble_eq_true rfl) (Nat.le_of_ble_eq_true rfl)) sh_93 g6 rfl dX5_findNormal_111 ?_
  refine v_imul (pc := 112) hX dX5_findNormal_112 ?_
  refine v_isub (pc := 113) hX dX5_findNormal_113 ?_
  obtain ⟨M9, eM9, h⟩ := bd_e h
  refine v_iast (pc := 114) hX (hcs 94 (Nat.le_of_ble_eq_true rfl) (Nat.le_of_ble_eq_true rfl)) sh_94 (ib_2 (by decide)) ix_2 dX5_findNormal_114 eM9 ?_
  refine v_aload_n (pc := 115) 0 hX dX5_findNormal_115 rfl ?_
  refine v_getR (pc := 116) (t := 94) hX (hcs 92 (Nat.le_of_ble_eq_true rfl) (Nat.le_of_ble_eq_true rfl)) sh_92 fl_5_15 rfl dX5_findNormal_116 ?_
  refine v_iconst (pc := 119) hX dX5_findNormal_119 ic_0 ?_
  refine v_iald (pc := 120) hX (hcs 94 (Nat.le_of_ble_eq_true rfl) (Nat.le_of_ble_eq_true rfl)) sh_94 (ib_0 (by decide)) ix_0 dX5_findNormal_120 ?_
  refine v_if_ne (pc := 121) (tgt := 142) hX dX5_findNormal_121 (by decide) (fun h10 => ?_) (fun h10 => ?_)
  · have h := if_f h h10
    refine v_iconst (pc := 142) hX dX5_findNormal_142 ic_1 ?_
    refine v_goto (pc := 143) (tgt := 147) hX dX5_findNormal_143 (by decide) ?_
    obtain rfl := Option.some.inj h
    exact v_zret (pc := 147) hX hR (Or.inr rfl) dX5_findNormal_147
  · have h := if_t h h10
    refine v_aload_n (pc := 124) 0 hX dX5_findNormal_124 rfl ?_
    refine v_getR (pc := 125) (t := 94) hX (hcs 92 (Nat.le_of_ble_eq_true rfl) (Nat.le_of_ble_eq_true rfl)) sh_92 fl_5_15 rfl dX5_findNormal_125 ?_
    refine v_iconst (pc := 128) hX dX5_findNormal_128 ic_1 ?_
    refine v_iald (pc := 129) hX (hcs 94 (Nat.le_of_ble_eq_true rfl) (Nat.le_of_ble_eq_true rfl)) sh_94 (ib_1 (by decide)) ix_1 dX5_findNormal_129 ?_
    refine v_if_ne (pc := 130) (tgt := 142) hX dX5_findNormal_130 (by decide) (fun h11 => ?_) (fun h11 => ?_)
    · have h := if_f h h11
      refine v_iconst (pc := 142) hX dX5_findNormal_142 ic_1 ?_
      refine v_goto (pc := 143) (tgt := 147) hX dX5_findNormal_143 (by decide) ?_
      obtain rfl := Option.some.inj h
      exact v_zret (pc := 147) hX hR (Or.inr rfl) dX5_findNormal_147
    · have h := if_t h h11
      refine v_aload_n (pc := 133) 0 hX dX5_findNormal_133 rfl ?_
      refine v_getR (pc := 134) (t := 94) hX (hcs 92 (Nat.le_of_ble_eq_true rfl) (Nat.le_of_ble_eq_true rfl)) sh_92 fl_5_15 rfl dX5_findNormal_134 ?_
      refine v_iconst (pc := 137) hX dX5_findNormal_137 ic_2 ?_
      refine v_iald (pc := 138) hX (hcs 94 (Nat.le_of_ble_eq_true rfl) (Nat.le_of_ble_eq_true rfl)) sh_94 (ib_2 (by decide)) ix_2 dX5_findNormal_138 ?_
      refine v_if_eq (pc := 139) (tgt := 146) hX dX5_findNormal_139 (by decide) (fun h12 => ?_) (fun h12 => ?_)
      · have h := if_t h h12
        refine v_iconst (pc := 146) hX dX5_findNormal_146 ic_0 ?_
        obtain rfl := Option.some.inj h
        exact v_zret (pc := 147) hX hR (Or.inl rfl) dX5_findNormal_147
      · have h := if_f h h12
        refine v_iconst (pc := 142) hX dX5_findNormal_142 ic_1 ?_
        refine v_goto (pc := 143) (tgt := 147) hX dX5_findNormal_143 (by decide) ?_
        obtain rfl := Option.some.inj h
        exact v_zret (pc := 147) hX hR (Or.inr rfl) dX5_findNormal_147
set_option maxHeartbeats 4000000 in
set_option maxRecDepth 100000 in
theorem c_X5_hasRowsOnBothSides {ad : Nat → Nat} {cs : List Nat} (hcs : ∀ k, 92 ≤ k → k < 95 → k ∈ cs) (M : Mm) (q : Int32) (h : fX5_hasRowsOnBothSides M = some q) : CT ad cs yX5_hasRowsOnBothSides cX5_hasRowsOnBothSides 6 (some .boolean) 0 0 [.ref (ad 92)] M (some (.int q)) M := by
  refine CT.of RX5 (by decide +kernel) rfl (Nat.le_of_ble_eq_true rfl) (fun X hX hR => ?_)
  unfold fX5_hasRowsOnBothSides at h
  show VV X 6 ad cs M 0 [(0, .ref (ad 92))] []
  refine v_iconst (pc := 0) hX dX5_hasRowsOnBothSides_0 ic_0 ?_
  refine v_istore_n (pc := 1) [(1, .int 0), (0, .ref (ad 92))] hX dX5_hasRowsOnBothSides_1 (by decide) rfl ?_
  refine v_iconst (pc := 2) hX dX5_hasRowsOnBothSides_2 ic_0 ?_
  refine v_istore_n (pc := 3) [(2, .int 0), (1, .int 0), (0, .ref (ad 92))] hX dX5_hasRowsOnBothSides_3 (by decide) rfl ?_
  refine v_iconst (pc := 4) hX dX5_hasRowsOnBothSides_4 ic_0 ?_
  refine v_istore_n (pc := 5) [(3, .int 0), (2, .int 0), (1, .int 0), (0, .ref (ad 92))] hX dX5_hasRowsOnBothSides_5 (by decide) rfl ?_
  have L25 := v_itr (fX5_hasRowsOnBothSides_L6 M) (fun z => VV X 6 ad cs M 6 [(0, .ref (ad 92)), (1, .int z.1), (2, .int z.2.1), (3, .int z.2.2)] []) (fun z => VV X 6 ad cs M 105 [(1, .int z.1), (2, .int z.2)] []) (by
    rintro ⟨x1, x2, x3⟩ q h hK
    unfold fX5_hasRowsOnBothSides_L6 at h
    have h := u3_b h
    show VV X 6 ad cs M 6 [(0, .ref (ad 92)), (1, .int x1), (2, .int x2), (3, .int x3)] []
    refine v_iload_n (pc := 6) 3 hX dX5_hasRowsOnBothSides_6 rfl ?_
    refine v_aload_n (pc := 7) 0 hX dX5_hasRowsOnBothSides_7 rfl ?_
    refine v_getI (pc := 8) hX (hcs 92 (Nat.le_of_ble_eq_true rfl) (Nat.le_of_ble_eq_true rfl)) sh_92 fl_5_22 rfl dX5_hasRowsOnBothSides_8 ?_
    refine v_icmp_ge (pc := 11) (tgt := 105) hX dX5_hasRowsOnBothSides_11 (by decide) (fun h4 => ?_) (fun h4 => ?_)
    · have h := if_t h h4
      obtain rfl := Option.some.inj h
      exact v_sub [1, 2] rfl hK
    · have h := if_f h h4
      refine v_iconst (pc := 14) hX dX5_hasRowsOnBothSides_14 ic_3 ?_
      refine v_iload_n (pc := 15) 3 hX dX5_hasRowsOnBothSides_15 rfl ?_
      refine v_imul (pc := 16) hX dX5_hasRowsOnBothSides_16 ?_
      obtain ⟨x5, ex5, h⟩ := bd_e h
      refine v_top ex5 ?_
      refine v_istore (pc := 17) [(4, .int x5), (0, .ref (ad 92)), (1, .int x1), (2, .int x2), (3, .int x3)] hX dX5_hasRowsOnBothSides_17 (by decide) rfl ?_
      refine v_aload_n (pc := 19) 1 hX dX5_hasRowsOnBothSides_19 rfl ?_
      refine v_getR (pc := 20) (t := 94) hX (hcs 92 (Nat.le_of_ble_eq_true rfl) (Nat.le_of_ble_eq_true rfl)) sh_92 fl_5_15 rfl dX5_hasRowsOnBothSides_20 ?_
      refine v_iconst (pc := 23) hX dX5_hasRowsOnBothSides_23 ic_0 ?_
      refine v_iald (pc := 24) hX (hcs 94 (Nat.le_of_ble_eq_true rfl) (Nat.le_of_ble_eq_true rfl)) sh_94 (ib_0 (by decide)) ix_0 dX5_hasRowsOnBothSides_24 ?_
      refine v_aload_n (pc := 25) 1 hX dX5_hasRowsOnBothSides_25 rfl ?_
      refine v_getR (pc := 26) (t := 93) hX (hcs 92 (Nat.le_of_ble_eq_true rfl) (Nat.le_of_ble_eq_true rfl)) sh_92 fl_5_9 rfl dX5_hasRowsOnBothSides_26 ?_
      refine v_iload (pc := 29) 0 hX dX5_hasRowsOnBothSides_29 rfl ?_
      obtain ⟨g6, h⟩ := gd_e h
      refine v_iald (pc := 31) hX (hcs 93 (Nat.le_of_ble_eq_true rfl) (Nat.le_of_ble_eq_true rfl)) sh_93 g6 rfl dX5_hasRowsOnBothSides_31 ?_
      refine v_imul (pc := 32) hX dX5_hasRowsOnBothSides_32 ?_
      refine v_aload_n (pc := 33) 1 hX dX5_hasRowsOnBothSides_33 rfl ?_
      refine v_getR (pc := 34) (t := 94) hX (hcs 92 (Nat.le_of_ble_eq_true rfl) (Nat.le_of_ble_eq_true rfl)) sh_92 fl_5_15 rfl dX5_hasRowsOnBothSides_34 ?_
      refine v_iconst (pc := 37) hX dX5_hasRowsOnBothSides_37 ic_1 ?_
      refine v_iald (pc := 38) hX (hcs 94 (Nat.le_of_ble_eq_true rfl) (Nat.le_of_ble_eq_true rfl)) sh_94 (ib_1 (by decide)) ix_1 dX5_hasRowsOnBothSides_38 ?_
      refine v_aload_n (pc := 39) 1 hX dX5_hasRowsOnBothSides_39 rfl ?_
      refine v_getR (pc := 40) (t := 93) hX (hcs 92 (Nat.le_of_ble_eq_true rfl) (Nat.le_of_ble_eq_true rfl)) sh_92 fl_5_9 rfl dX5_hasRowsOnBothSides_40 ?_
      refine v_iload (pc := 43) 0 hX dX5_hasRowsOnBothSides_43 rfl ?_
      refine v_iconst (pc := 45) hX dX5_hasRowsOnBothSides_45 ic_1 ?_
      refine v_iadd (pc := 46) hX dX5_hasRowsOnBothSides_46 ?_
      obtain ⟨g7, h⟩ := gd_e h
      refine v_iald (pc := 47) hX (hcs 93 (Nat.le_of_ble_eq_true rfl) (Nat.le_of_ble_eq_true rfl)) sh_93 g7 rfl dX5_hasRowsOnBothSides_47 ?_
      refine v_imul (pc := 48) hX dX5_hasRowsOnBothSides_48 ?_
      refine v_iadd (pc := 49) hX dX5_hasRowsOnBothSides_49 ?_
      refine v_aload_n (pc := 50) 1 hX dX5_hasRowsOnBothSides_50 rfl ?_
      refine v_getR (pc := 51) (t := 94) hX (hcs 92 (Nat.le_of_ble_eq_true rfl) (Nat.le_of_ble_eq_true rfl)) sh_92 fl_5_15 rfl dX5_hasRowsOnBothSides_51 ?_
      refine v_iconst (pc := 54) hX dX5_hasRowsOnBothSides_54 ic_2 ?_
      refine v_iald (pc := 55) hX (hcs 94 (Nat.le_of_ble_eq_true rfl) (Nat.le_of_ble_eq_true rfl)) sh_94 (ib_2 (by decide)) ix_2 dX5_hasRowsOnBothSides_55 ?_
      refine v_aload_n (pc := 56) 1 hX dX5_hasRowsOnBothSides_56 rfl ?_
      refine v_getR (pc := 57) (t := 93) hX (hcs 92 (Nat.le_of_ble_eq_true rfl) (Nat.le_of_ble_eq_true rfl)) sh_92 fl_5_9 rfl dX5_hasRowsOnBothSides_57 ?_
      refine v_iload (pc := 60) 0 hX dX5_hasRowsOnBothSides_60 rfl ?_
      refine v_iconst (pc := 62) hX dX5_hasRowsOnBothSides_62 ic_2 ?_
      refine v_iadd (pc := 63) hX dX5_hasRowsOnBothSides_63 ?_
      obtain ⟨g8, h⟩ := gd_e h
      refine v_iald (pc := 64) hX (hcs 93 (Nat.le_of_ble_eq_true rfl) (Nat.le_of_ble_eq_true rfl)) sh_93 g8 rfl dX5_hasRowsOnBothSides_64 ?_
      refine v_imul (pc := 65) hX dX5_hasRowsOnBothSides_65 ?_
      refine v_iadd (pc := 66) hX dX5_hasRowsOnBothSides_66 ?_
      obtain ⟨x9, ex9, h⟩ := bd_e h
      refine v_top ex9 ?_
      refine v_istore (pc := 67) [(5, .int x9), (4, .int x5), (0, .ref (ad 92)), (1, .int x1), (2, .int x2), (3, .int x3)] hX dX5_hasRowsOnBothSides_67 (by decide) rfl ?_
      refine v_iload_n (pc := 69) 3 hX dX5_hasRowsOnBothSides_69 rfl ?_
      obtain ⟨k10, ek10, h⟩ := bd_e h
      have K11 : ∀ (x12 : Int32), k10 x12 = some q → VV X 6 ad cs M 83 [(0, .ref (ad 92)), (2, .int x2), (3, .int x3), (5, .int x9)] [.int x12] := by
        intro x12 h
        subst ek10
        refine v_istore_n (pc := 83) [(1, .int x12), (0, .ref (ad 92)), (2, .int x2), (3, .int x3), (5, .int x9)] hX dX5_hasRowsOnBothSides_83 (by decide) rfl ?_
        refine v_iload_n (pc := 84) 2 hX dX5_hasRowsOnBothSides_84 rfl ?_
        obtain ⟨k13, ek13, h⟩ := bd_e h
        have K14 : ∀ (x15 : Int32), k13 x15 = some q → VV X 6 ad cs M 98 [(0, .ref (ad 92)), (1, .int x12), (3, .int x3)] [.int x15] := by
          intro x15 h
          subst ek13
          refine v_istore_n (pc := 98) [(2, .int x15), (0, .ref (ad 92)), (1, .int x12), (3, .int x3)] hX dX5_hasRowsOnBothSides_98 (by decide) rfl ?_
          obtain ⟨x16, ex16, h⟩ := bd_e h
          refine v_iinc (v := x16) (pc := 99) 3 [(3, .int x16), (2, .int x15), (0, .ref (ad 92)), (1, .int x12)] hX dX5_hasRowsOnBothSides_99 rfl (ex16.trans (by rw [ic_1])) (by decide) rfl ?_
          refine v_goto (pc := 102) (tgt := 6) hX dX5_hasRowsOnBothSides_102 (by decide) ?_
          obtain rfl := Option.some.inj h
          exact v_sub [2, 3, 1, 0] rfl hK
        obtain ⟨k17, ek17, h⟩ := bd_e h
        have K18 : ∀ (_ : Unit), k17 () = some q → VV X 6 ad cs M 93 [(0, .ref (ad 92)), (1, .int x12), (3, .int x3)] [] := by
          intro _ h
          subst ek17
          refine v_iconst (pc := 93) hX dX5_hasRowsOnBothSides_93 ic_1 ?_
          refine v_goto (pc := 94) (tgt := 98) hX dX5_hasRowsOnBothSides_94 (by decide) ?_
          exact v_sub [0, 1, 2] rfl (K14 1 h)
        refine v_if_ne (pc := 85) (tgt := 93) hX dX5_hasRowsOnBothSides_85 (by decide) (fun h19 => ?_) (fun h19 => ?_)
        · have h := if_f h h19
          exact v_sub [1, 0, 3] rfl (K18 () h)
        · have h := if_t h h19
          refine v_iload (pc := 88) 4 hX dX5_hasRowsOnBothSides_88 rfl ?_
          refine v_if_ge (pc := 90) (tgt := 97) hX dX5_hasRowsOnBothSides_90 (by decide) (fun h20 => ?_) (fun h20 => ?_)
          · have h := if_t h h20
            refine v_iconst (pc := 97) hX dX5_hasRowsOnBothSides_97 ic_0 ?_
            exact v_sub [1, 0, 3] rfl (K14 0 h)
          · have h := if_f h h20
            exact v_sub [1, 0, 3] rfl (K18 () h)
      obtain ⟨k21, ek21, h⟩ := bd_e h
      have K22 : ∀ (_ : Unit), k21 () = some q → VV X 6 ad cs M 78 [(0, .ref (ad 92)), (2, .int x2), (3, .int x3), (5, .int x9)] [] := by
        intro _ h
        subst ek21
        refine v_iconst (pc := 78) hX dX5_hasRowsOnBothSides_78 ic_1 ?_
        refine v_goto (pc := 79) (tgt := 83) hX dX5_hasRowsOnBothSides_79 (by decide) ?_
        exact v_sub [0, 1, 2, 3] rfl (K11 1 h)
      refine v_if_ne (pc := 70) (tgt := 78) hX dX5_hasRowsOnBothSides_70 (by decide) (fun h23 => ?_) (fun h23 => ?_)
      · have h := if_f h h23
        exact v_sub [2, 4, 5, 0] rfl (K22 () h)
      · have h := if_t h h23
        refine v_iload (pc := 73) 0 hX dX5_hasRowsOnBothSides_73 rfl ?_
        refine v_if_le (pc := 75) (tgt := 82) hX dX5_hasRowsOnBothSides_75 (by decide) (fun h24 => ?_) (fun h24 => ?_)
        · have h := if_t h h24
          refine v_iconst (pc := 82) hX dX5_hasRowsOnBothSides_82 ic_0 ?_
          exact v_sub [2, 4, 5, 0] rfl (K11 0 h)
        · have h := if_f h h24
          exact v_sub [2, 4, 5, 0] rfl (K22 () h)
  )
  obtain ⟨x26, x27, h30, h⟩ := b2_e h
  refine v_sub [3, 2, 1, 0] rfl ?_
  refine L25 1000 _ _ h30 ?_
  show VV X 6 ad cs M 105 [(1, .int x26), (2, .int x27)] []
  refine v_iload_n (pc := 105) 0 hX dX5_hasRowsOnBothSides_105 rfl ?_
  refine v_if_eq (pc := 106) (tgt := 117) hX dX5_hasRowsOnBothSides_106 (by decide) (fun h28 => ?_) (fun h28 => ?_)
  · have h := if_t h h28
    refine v_iconst (pc := 117) hX dX5_hasRowsOnBothSides_117 ic_0 ?_
    obtain rfl := Option.some.inj h
    exact v_zret (pc := 118) hX hR (Or.inl rfl) dX5_hasRowsOnBothSides_118
  · have h := if_f h h28
    refine v_iload_n (pc := 109) 1 hX dX5_hasRowsOnBothSides_109 rfl ?_
    refine v_if_eq (pc := 110) (tgt := 117) hX dX5_hasRowsOnBothSides_110 (by decide) (fun h29 => ?_) (fun h29 => ?_)
    · have h := if_t h h29
      refine v_iconst (pc := 117) hX dX5_hasRowsOnBothSides_117 ic_0 ?_
      obtain rfl := Option.some.inj h
      exact v_zret (pc := 118) hX hR (Or.inl rfl) dX5_hasRowsOnBothSides_118
    · have h := if_f h h29
      refine v_iconst (pc := 113) hX dX5_hasRowsOnBothSides_113 ic_1 ?_
      refine v_goto (pc := 114) (tgt := 118) hX dX5_hasRowsOnBothSides_114 (by decide) ?_
      obtain rfl := Option.some.inj h
      exact v_zret (pc := 118) hX hR (Or.inr rfl) dX5_hasRowsOnBothSides_118
set_option maxHeartbeats 4000000 in
set_option maxRecDepth 100000 in
theorem c_X5_isWhole {ad : Nat → Nat} {cs : List Nat} (hcs : ∀ k, 8 ≤ k → k < 95 → k ∈ cs) (M : Mm) (w2 : Int32) (q : Int32 × Mm) (h : fX5_isWhole M w2 = some q) : CT ad cs yX5_isWhole cX5_isWhole 6 (some .boolean) 2 49 [.ref (ad 92), .ref (ad 8), .int w2] M (some (.int q.1)) q.2 := by
  refine CT.of RX5 (by decide +kernel) rfl (Nat.le_of_ble_eq_true rfl) (fun X hX hR => ?_)
  unfold fX5_isWhole at h
  show VV X 6 ad cs M 0 [(0, .ref (ad 92)), (1, .ref (ad 8)), (2, .int w2)] []
  refine v_aload_n (pc := 0) 0 hX dX5_isWhole_0 rfl ?_
  refine v_aload_n (pc := 1) 1 hX dX5_isWhole_1 rfl ?_
  refine v_iload_n (pc := 2) 2 hX dX5_isWhole_2 rfl ?_
  obtain ⟨M2, h1, h⟩ := b1_e h
  refine v_callV (pc := 3) [.ref (ad 8), .int w2] none M2 hX cv_5_18 (c_X5_fill (sub_cs hcs (Nat.le_of_ble_eq_true rfl) (Nat.le_of_ble_eq_true rfl)) M w2 M2 h1) (hcs 92 (Nat.le_of_ble_eq_true rfl) (Nat.le_of_ble_eq_true rfl)) sh_92 rfl rfl rfl ⟨Nat.le_of_ble_eq_true rfl, Nat.le_of_ble_eq_true rfl⟩ (Nat.le_of_ble_eq_true rfl) dX5_isWhole_3 ?_
  show VV X 6 ad cs M2 6 [(0, .ref (ad 92)), (1, .ref (ad 8)), (2, .int w2)] []
  refine v_iconst (pc := 6) hX dX5_isWhole_6 ic_0 ?_
  refine v_istore_n (pc := 7) [(3, .int 0), (0, .ref (ad 92)), (1, .ref (ad 8)), (2, .int w2)] hX dX5_isWhole_7 (by decide) rfl ?_
  refine v_iconst (pc := 8) hX dX5_isWhole_8 ic_0 ?_
  refine v_istore (pc := 9) [(4, .int 0), (3, .int 0), (0, .ref (ad 92)), (1, .ref (ad 8)), (2, .int w2)] hX dX5_isWhole_9 (by decide) rfl ?_
  have L29 := v_itr (fX5_isWhole_L11) (fun z => VV X 6 ad cs z.2.2 11 [(0, .ref (ad 92)), (3, .int z.1), (4, .int z.2.1)] []) (Sum.elim (fun z => VV X 6 ad cs z 59 [] []) (fun z => VV X 6 ad cs z.2 73 [(3, .int z.1)] [])) (by
    rintro ⟨x3, x4, M5⟩ q h hK
    unfold fX5_isWhole_L11 at h
    have h := u3_b h
    show VV X 6 ad cs M5 11 [(0, .ref (ad 92)), (3, .int x3), (4, .int x4)] []
    refine v_iload (pc := 11) 2 hX dX5_isWhole_11 rfl ?_
    refine v_aload_n (pc := 13) 0 hX dX5_isWhole_13 rfl ?_
    refine v_getI (pc := 14) hX (hcs 92 (Nat.le_of_ble_eq_true rfl) (Nat.le_of_ble_eq_true rfl)) sh_92 fl_5_22 rfl dX5_isWhole_14 ?_
    refine v_icmp_ge (pc := 17) (tgt := 73) hX dX5_isWhole_17 (by decide) (fun h6 => ?_) (fun h6 => ?_)
    · have h := if_t h h6
      obtain rfl := Option.some.inj h
      exact v_sub [1] rfl hK
    · have h := if_f h h6
      refine v_iload (pc := 20) 2 hX dX5_isWhole_20 rfl ?_
      refine v_iconst (pc := 22) hX dX5_isWhole_22 ic_1 ?_
      refine v_iadd (pc := 23) hX dX5_isWhole_23 ?_
      obtain ⟨x7, ex7, h⟩ := bd_e h
      refine v_top ex7 ?_
      refine v_istore (pc := 24) [(5, .int x7), (0, .ref (ad 92)), (3, .int x3), (4, .int x4)] hX dX5_isWhole_24 (by decide) rfl ?_
      have L23 := v_itr (fX5_isWhole_L26 x4) (fun z => VV X 6 ad cs z.2.2 26 [(0, .ref (ad 92)), (3, .int z.1), (4, .int x4), (5, .int z.2.1)] []) (Sum.elim (fun z => VV X 6 ad cs z 59 [] []) (fun z => VV X 6 ad cs z.2 67 [(0, .ref (ad 92)), (3, .int z.1), (4, .int x4)] [])) (by
        rintro ⟨x8, x9, M10⟩ q h hK
        unfold fX5_isWhole_L26 at h
        have h := u3_b h
        show VV X 6 ad cs M10 26 [(0, .ref (ad 92)), (3, .int x8), (4, .int x4), (5, .int x9)] []
        refine v_iload (pc := 26) 3 hX dX5_isWhole_26 rfl ?_
        refine v_aload_n (pc := 28) 0 hX dX5_isWhole_28 rfl ?_
        refine v_getI (pc := 29) hX (hcs 92 (Nat.le_of_ble_eq_true rfl) (Nat.le_of_ble_eq_true rfl)) sh_92 fl_5_22 rfl dX5_isWhole_29 ?_
        refine v_icmp_ge (pc := 32) (tgt := 67) hX dX5_isWhole_32 (by decide) (fun h11 => ?_) (fun h11 => ?_)
        · have h := if_t h h11
          obtain rfl := Option.some.inj h
          exact v_sub [0, 1, 2] rfl hK
        · have h := if_f h h11
          refine v_aload_n (pc := 35) 0 hX dX5_isWhole_35 rfl ?_
          refine v_iconst (pc := 36) hX dX5_isWhole_36 ic_3 ?_
          refine v_iload (pc := 37) 2 hX dX5_isWhole_37 rfl ?_
          refine v_imul (pc := 39) hX dX5_isWhole_39 ?_
          refine v_iconst (pc := 40) hX dX5_isWhole_40 ic_3 ?_
          refine v_iload (pc := 41) 3 hX dX5_isWhole_41 rfl ?_
          refine v_imul (pc := 43) hX dX5_isWhole_43 ?_
          obtain ⟨x13, M14, h12, h⟩ := b2_e h
          refine v_callV (pc := 44) [.int (3 * x4), .int (3 * x9)] (some (.int x13)) M14 hX cv_5_26 (c_X5_findNormal (sub_cs hcs (Nat.le_of_ble_eq_true rfl) (Nat.le_of_ble_eq_true rfl)) M10 (3 * x4) (3 * x9) (x13, M14) h12) (hcs 92 (Nat.le_of_ble_eq_true rfl) (Nat.le_of_ble_eq_true rfl)) sh_92 rfl rfl rfl ⟨Nat.le_of_ble_eq_true rfl, Nat.le_of_ble_eq_true rfl⟩ (Nat.le_of_ble_eq_true rfl) dX5_isWhole_44 ?_
          show VV X 6 ad cs M14 47 [(0, .ref (ad 92)), (3, .int x8), (4, .int x4), (5, .int x9)] [.int x13]
          obtain ⟨k15, ek15, h⟩ := bd_e h
          have K16 : ∀ (x17 : Int32), k15 x17 = some q → VV X 6 ad cs M14 61 [(0, .ref (ad 92)), (3, .int x17), (4, .int x4), (5, .int x9)] [] := by
            intro x17 h
            subst ek15
            obtain ⟨x18, ex18, h⟩ := bd_e h
            refine v_iinc (v := x18) (pc := 61) 3 [(5, .int x18), (0, .ref (ad 92)), (3, .int x17), (4, .int x4)] hX dX5_isWhole_61 rfl (ex18.trans (by rw [ic_1])) (by decide) rfl ?_
            refine v_goto (pc := 64) (tgt := 26) hX dX5_isWhole_64 (by decide) ?_
            obtain rfl := Option.some.inj h
            exact v_sub [1, 2, 3, 0] rfl hK
          refine v_if_eq (pc := 47) (tgt := 61) hX dX5_isWhole_47 (by decide) (fun h19 => ?_) (fun h19 => ?_)
          · have h := if_t h h19
            exact v_sub [0, 1, 2, 3] rfl (K16 x8 h)
          · have h := if_f h h19
            refine v_iconst (pc := 50) hX dX5_isWhole_50 ic_1 ?_
            refine v_istore_n (pc := 51) [(3, .int 1), (0, .ref (ad 92)), (4, .int x4), (5, .int x9)] hX dX5_isWhole_51 (by decide) rfl ?_
            refine v_aload_n (pc := 52) 1 hX dX5_isWhole_52 rfl ?_
            obtain ⟨x21, h20, h⟩ := b1_e h
            refine v_callV (pc := 53) [] (some (.int x21)) M14 hX cv_5_30 (c_X5_hasRowsOnBothSides (sub_cs hcs (Nat.le_of_ble_eq_true rfl) (Nat.le_of_ble_eq_true rfl)) M14 x21 h20) (hcs 92 (Nat.le_of_ble_eq_true rfl) (Nat.le_of_ble_eq_true rfl)) sh_92 rfl rfl rfl ⟨Nat.le_of_ble_eq_true rfl, Nat.le_of_ble_eq_true rfl⟩ (Nat.le_of_ble_eq_true rfl) dX5_isWhole_53 ?_
            show VV X 6 ad cs M14 56 [(3, .int 1), (0, .ref (ad 92)), (4, .int x4), (5, .int x9)] [.int x21]
            refine v_if_ne (pc := 56) (tgt := 61) hX dX5_isWhole_56 (by decide) (fun h22 => ?_) (fun h22 => ?_)
            · have h := if_f h h22
              exact v_sub [1, 0, 2, 3] rfl (K16 1 h)
            · have h := if_t h h22
              obtain rfl := Option.some.inj h
              exact v_sub [] rfl hK
      )
      rcases bs_e h with ⟨M24, h28, h⟩ | ⟨⟨x25, M26⟩, h28, h⟩
      · refine v_sub [1, 2, 3, 0] rfl ?_
        refine L23 1000 _ _ h28 ?_
        show VV X 6 ad cs M24 59 [] []
        obtain rfl := Option.some.inj h
        exact v_sub [] rfl hK
      · refine v_sub [1, 2, 3, 0] rfl ?_
        refine L23 1000 _ _ h28 ?_
        have h := u2_b h
        show VV X 6 ad cs M26 67 [(0, .ref (ad 92)), (3, .int x25), (4, .int x4)] []
        obtain ⟨x27, ex27, h⟩ := bd_e h
        refine v_iinc (v := x27) (pc := 67) 2 [(4, .int x27), (0, .ref (ad 92)), (3, .int x25)] hX dX5_isWhole_67 rfl (ex27.trans (by rw [ic_1])) (by decide) rfl ?_
        refine v_goto (pc := 70) (tgt := 11) hX dX5_isWhole_70 (by decide) ?_
        obtain rfl := Option.some.inj h
        exact v_sub [1, 2, 0] rfl hK
  )
  rcases bs_e h with ⟨M30, h34, h⟩ | ⟨⟨x31, M32⟩, h34, h⟩
  · refine v_sub [2, 1, 0] rfl ?_
    refine L29 1000 _ _ h34 ?_
    show VV X 6 ad cs M30 59 [] []
    refine v_iconst (pc := 59) hX dX5_isWhole_59 ic_0 ?_
    obtain rfl := Option.some.inj h
    exact v_zret (pc := 60) hX hR (Or.inl rfl) dX5_isWhole_60
  · refine v_sub [2, 1, 0] rfl ?_
    refine L29 1000 _ _ h34 ?_
    have h := u2_b h
    show VV X 6 ad cs M32 73 [(3, .int x31)] []
    refine v_iload_n (pc := 73) 0 hX dX5_isWhole_73 rfl ?_
    obtain ⟨g33, h⟩ := gd_e h
    obtain rfl := Option.some.inj h
    exact v_zret (pc := 74) hX hR g33 dX5_isWhole_74
set_option maxHeartbeats 4000000 in
set_option maxRecDepth 100000 in
theorem c_X10_spans {ad : Nat → Nat} {cs : List Nat} (hcs : ∀ k, 0 ≤ k → k < 95 → k ∈ cs) (M : Mm) (q : Int32 × Mm) (h : fX10_spans M = some q) : CT ad cs yX10_spans cX10_spans 1 (some .int) 3 74 [.ref (ad 0)] M (some (.int q.1)) q.2 := by
  refine CT.of RX10 (by decide +kernel) rfl (Nat.le_of_ble_eq_true rfl) (fun X hX hR => ?_)
  unfold fX10_spans at h
  show VV X 1 ad cs M 0 [(0, .ref (ad 0))] []
  refine v_aload_n (pc := 0) 0 hX dX10_spans_0 rfl ?_
  refine v_getR (pc := 1) (t := 92) hX (hcs 0 (Nat.le_of_ble_eq_true rfl) (Nat.le_of_ble_eq_true rfl)) sh_0 fl_10_58 rfl dX10_spans_1 ?_
  refine v_aload_n (pc := 4) 0 hX dX10_spans_4 rfl ?_
  refine v_getR (pc := 5) (t := 1) hX (hcs 0 (Nat.le_of_ble_eq_true rfl) (Nat.le_of_ble_eq_true rfl)) sh_0 fl_10_10 rfl dX10_spans_5 ?_
  refine v_getR (pc := 8) (t := 8) hX (hcs 1 (Nat.le_of_ble_eq_true rfl) (Nat.le_of_ble_eq_true rfl)) sh_1 fl_10_125 rfl dX10_spans_8 ?_
  refine v_aload_n (pc := 11) 0 hX dX10_spans_11 rfl ?_
  refine v_getR (pc := 12) (t := 1) hX (hcs 0 (Nat.le_of_ble_eq_true rfl) (Nat.le_of_ble_eq_true rfl)) sh_0 fl_10_10 rfl dX10_spans_12 ?_
  refine v_getI (pc := 15) hX (hcs 1 (Nat.le_of_ble_eq_true rfl) (Nat.le_of_ble_eq_true rfl)) sh_1 fl_10_67 rfl dX10_spans_15 ?_
  obtain ⟨x2, M3, h1, h⟩ := b2_e h
  refine v_callV (pc := 18) [.ref (ad 8), .int (M.1 1 0)] (some (.int x2)) M3 hX cv_10_230 (c_X5_isWhole (sub_cs hcs (Nat.le_of_ble_eq_true rfl) (Nat.le_of_ble_eq_true rfl)) M (M.1 1 0) (x2, M3) h1) (hcs 92 (Nat.le_of_ble_eq_true rfl) (Nat.le_of_ble_eq_true rfl)) sh_92 rfl rfl rfl ⟨Nat.le_of_ble_eq_true rfl, Nat.le_of_ble_eq_true rfl⟩ (Nat.le_of_ble_eq_true rfl) dX10_spans_18 ?_
  show VV X 1 ad cs M3 21 [(0, .ref (ad 0))] [.int x2]
  obtain ⟨x5, h4, h⟩ := b1_e h
  refine v_callS (pc := 21) [.int x2] (some (.int x5)) M3 hX cv_10_121 (c_X10_oneIf M3 x2 x5 h4) rfl rfl ⟨Nat.le_of_ble_eq_true rfl, Nat.le_of_ble_eq_true rfl⟩ (Nat.le_of_ble_eq_true rfl) dX10_spans_21 ?_
  show VV X 1 ad cs M3 24 [(0, .ref (ad 0))] [.int x5]
  obtain rfl := Option.some.inj h
  exact v_iret (pc := 24) hX hR dX10_spans_24
