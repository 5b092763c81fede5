set_option maxHeartbeats 4000000 in
set_option maxRecDepth 100000 in
theorem c_X10_value {ad : Nat → Nat} {cs : List Nat} (hcs : ∀ k, 0 ≤ k → k < 5 → k ∈ cs) (M : Mm) (w1 : Int32) (w2 : Int32) (w3 : Int32) (w4 : Int32) (q : Int64) (h : fX10_value M w1 w2 w3 w4 = some q) : CT ad cs yX10_value cX10_value 6 (some .long) 2 53 [.ref (ad 0), .int w1, .int w2, .int w3, .int w4] M (some (.long q)) M := by
  refine CT.of RX10 (by decide +kernel) rfl (Nat.le_of_ble_eq_true rfl) (fun X hX hR => ?_)
  unfold fX10_value at h
  show VV X 6 ad cs M 0 [(0, .ref (ad 0)), (1, .int w1), (2, .int w2), (3, .int w3), (4, .int w4)] []
  refine v_aload_n (pc := 0) 0 hX dX10_value_0 rfl ?_
  refine v_getR (pc := 1) (t := 1) hX (hcs 0 (Nat.le_of_ble_eq_true rfl) (Nat.le_of_ble_eq_true rfl)) sh_0 fl_10_10 rfl dX10_value_1 ?_
  refine v_iload_n (pc := 4) 1 hX dX10_value_4 rfl ?_
  refine v_iload_n (pc := 5) 2 hX dX10_value_5 rfl ?_
  refine v_iload_n (pc := 6) 3 hX dX10_value_6 rfl ?_
  refine v_bipush (pc := 7) hX dX10_value_7 bp_m50 ?_
  refine v_bipush (pc := 9) hX dX10_value_9 bp_50 ?_
  obtain ⟨x2, h1, h⟩ := b1_e h
  refine v_callV (pc := 11) [.int w1, .int w2, .int w3, .int (-50), .int 50] (some (.int x2)) M hX cv_10_75 (c_X6_fit (sub_cs hcs (Nat.le_of_ble_eq_true rfl) (Nat.le_of_ble_eq_true rfl)) M w1 w2 w3 (-50) 50 x2 h1) (hcs 1 (Nat.le_of_ble_eq_true rfl) (Nat.le_of_ble_eq_true rfl)) sh_1 rfl rfl rfl ⟨Nat.le_of_ble_eq_true rfl, Nat.le_of_ble_eq_true rfl⟩ (Nat.le_of_ble_eq_true rfl) dX10_value_11 ?_
  show VV X 6 ad cs M 14 [(0, .ref (ad 0)), (1, .int w1), (2, .int w2), (3, .int w3), (4, .int w4)] [.int x2]
  refine v_if_eq (pc := 14) (tgt := 27) hX dX10_value_14 (by decide) (fun h3 => ?_) (fun h3 => ?_)
  · have h := if_t h h3
    refine v_ldc2 (pc := 27) hX kc_10_170 dX10_value_27 ?_
    obtain rfl := Option.some.inj h
    exact v_lret (pc := 30) hX hR dX10_value_30
  · have h := if_f h h3
    refine v_iload (pc := 17) 4 hX dX10_value_17 rfl ?_
    refine v_iconst (pc := 19) hX dX10_value_19 ic_0 ?_
    refine v_iconst (pc := 20) hX dX10_value_20 ic_1 ?_
    obtain ⟨x5, h4, h⟩ := b1_e h
    refine v_callS (pc := 21) [.int w4, .int 0, .int 1] (some (.int x5)) M hX cv_10_62 (c_X10_within M w4 0 1 x5 h4) rfl rfl ⟨Nat.le_of_ble_eq_true rfl, Nat.le_of_ble_eq_true rfl⟩ (Nat.le_of_ble_eq_true rfl) dX10_value_21 ?_
    show VV X 6 ad cs M 24 [(0, .ref (ad 0)), (1, .int w1), (2, .int w2), (3, .int w3), (4, .int w4)] [.int x5]
    refine v_if_ne (pc := 24) (tgt := 31) hX dX10_value_24 (by decide) (fun h6 => ?_) (fun h6 => ?_)
    · have h := if_f h h6
      refine v_iload (pc := 31) 4 hX dX10_value_31 rfl ?_
      refine v_iconst (pc := 33) hX dX10_value_33 ic_1 ?_
      obtain ⟨k7, ek7, h⟩ := bd_e h
      have K8 : ∀ (x9 : Int32), k7 x9 = some q → VV X 6 ad cs M 42 [(0, .ref (ad 0)), (1, .int w1), (2, .int w2), (3, .int w3)] [.int x9] := by
        intro x9 h
        subst ek7
        refine v_istore (pc := 42) [(5, .int x9), (0, .ref (ad 0)), (1, .int w1), (2, .int w2), (3, .int w3)] hX dX10_value_42 (by decide) rfl ?_
        refine v_ldc2 (pc := 44) hX kc_10_172 dX10_value_44 ?_
        refine v_aload_n (pc := 47) 1 hX dX10_value_47 rfl ?_
        refine v_getR (pc := 48) (t := 1) hX (hcs 0 (Nat.le_of_ble_eq_true rfl) (Nat.le_of_ble_eq_true rfl)) sh_0 fl_10_10 rfl dX10_value_48 ?_
        refine v_getR (pc := 51) (t := 2) hX (hcs 1 (Nat.le_of_ble_eq_true rfl) (Nat.le_of_ble_eq_true rfl)) sh_1 fl_10_79 rfl dX10_value_51 ?_
        refine v_iload_n (pc := 54) 2 hX dX10_value_54 rfl ?_
        refine v_iload_n (pc := 55) 3 hX dX10_value_55 rfl ?_
        refine v_iload_n (pc := 56) 4 hX dX10_value_56 rfl ?_
        refine v_iload (pc := 57) 0 hX dX10_value_57 rfl ?_
        obtain ⟨y11, h10, h⟩ := b1_e h
        refine v_callV (pc := 59) [.int w1, .int w2, .int w3, .int x9] (some (.long y11)) M hX cv_10_174 (c_X7_sumAt (sub_cs hcs (Nat.le_of_ble_eq_true rfl) (Nat.le_of_ble_eq_true rfl)) M w1 w2 w3 x9 y11 h10) (hcs 2 (Nat.le_of_ble_eq_true rfl) (Nat.le_of_ble_eq_true rfl)) sh_2 rfl rfl rfl ⟨Nat.le_of_ble_eq_true rfl, Nat.le_of_ble_eq_true rfl⟩ (Nat.le_of_ble_eq_true rfl) dX10_value_59 ?_
        show VV X 6 ad cs M 62 [(5, .int x9), (0, .ref (ad 0)), (1, .int w1), (2, .int w2), (3, .int w3)] [.long y11, .long 20000000000]
        refine v_ladd (pc := 62) hX dX10_value_62 ?_
        obtain rfl := Option.some.inj h
        exact v_lret (pc := 63) hX hR dX10_value_63
      refine v_icmp_ne (pc := 34) (tgt := 41) hX dX10_value_34 (by decide) (fun h12 => ?_) (fun h12 => ?_)
      · have h := if_f h h12
        refine v_iconst (pc := 41) hX dX10_value_41 ic_4 ?_
        exact v_sub [0, 1, 2, 3] rfl (K8 4 h)
      · have h := if_t h h12
        refine v_iconst (pc := 37) hX dX10_value_37 ic_2 ?_
        refine v_goto (pc := 38) (tgt := 42) hX dX10_value_38 (by decide) ?_
        exact v_sub [0, 1, 2, 3] rfl (K8 2 h)
    · have h := if_t h h6
      refine v_ldc2 (pc := 27) hX kc_10_170 dX10_value_27 ?_
      obtain rfl := Option.some.inj h
      exact v_lret (pc := 30) hX hR dX10_value_30
set_option maxHeartbeats 4000000 in
set_option maxRecDepth 100000 in
theorem c_L_around {ad : Nat → Nat} {cs : List Nat} (hcs : ∀ k, 0 ≤ k → k < 92 → k ∈ cs) (M : Mm) (w1 : Int32) (q : Int32 × Mm) (h : fL_around M w1 = some q) : CT ad cs yL_around cL_around 16 (some .boolean) 5 132 [.ref (ad 0), .int w1] M (some (.int q.1)) q.2 := by
  refine CT.of RL (by decide +kernel) rfl (Nat.le_of_ble_eq_true rfl) (fun X hX hR => ?_)
  unfold fL_around at h
  show VV X 16 ad cs M 0 [(0, .ref (ad 0)), (1, .int w1)] []
  refine v_aload_n (pc := 0) 0 hX dL_around_0 rfl ?_
  refine v_iconst (pc := 1) hX dL_around_1 ic_3 ?_
  obtain ⟨x2, h1, h⟩ := b1_e h
  refine v_callV (pc := 2) [.int 3] (some (.int x2)) M hX cv_L_55 (c_X10_searchOf (sub_cs hcs (Nat.le_of_ble_eq_true rfl) (Nat.le_of_ble_eq_true rfl)) M 3 x2 h1) (hcs 0 (Nat.le_of_ble_eq_true rfl) (Nat.le_of_ble_eq_true rfl)) sh_0 rfl rfl rfl ⟨Nat.le_of_ble_eq_true rfl, Nat.le_of_ble_eq_true rfl⟩ (Nat.le_of_ble_eq_true rfl) dL_around_2 ?_
  show VV X 16 ad cs M 5 [(0, .ref (ad 0)), (1, .int w1)] [.int x2]
  refine v_istore_n (pc := 5) [(2, .int x2), (0, .ref (ad 0)), (1, .int w1)] hX dL_around_5 (by decide) rfl ?_
  refine v_aload_n (pc := 6) 1 hX dL_around_6 rfl ?_
  refine v_iconst (pc := 7) hX dL_around_7 ic_0 ?_
  obtain ⟨x4, h3, h⟩ := b1_e h
  refine v_callV (pc := 8) [.int 0] (some (.int x4)) M hX cv_L_16 (c_X10_count (sub_cs hcs (Nat.le_of_ble_eq_true rfl) (Nat.le_of_ble_eq_true rfl)) M 0 x4 h3) (hcs 0 (Nat.le_of_ble_eq_true rfl) (Nat.le_of_ble_eq_true rfl)) sh_0 rfl rfl rfl ⟨Nat.le_of_ble_eq_true rfl, Nat.le_of_ble_eq_true rfl⟩ (Nat.le_of_ble_eq_true rfl) dL_around_8 ?_
  show VV X 16 ad cs M 11 [(2, .int x2), (0, .ref (ad 0)), (1, .int w1)] [.int x4]
  refine v_iconst (pc := 11) hX dL_around_11 ic_1 ?_
  obtain ⟨k5, ek5, h⟩ := bd_e h
  have K6 : ∀ (x7 : Int32), k5 x7 = some q → VV X 16 ad cs M 20 [(0, .ref (ad 0)), (1, .int w1), (2, .int x2)] [.int x7] := by
    intro x7 h
    subst ek5
    refine v_istore_n (pc := 20) [(3, .int x7), (0, .ref (ad 0)), (1, .int w1), (2, .int x2)] hX dL_around_20 (by decide) rfl ?_
    refine v_aload_n (pc := 21) 1 hX dL_around_21 rfl ?_
    refine v_iconst (pc := 22) hX dL_around_22 ic_0 ?_
    obtain ⟨x9, h8, h⟩ := b1_e h
    refine v_callV (pc := 23) [.int 0] (some (.int x9)) M hX cv_L_16 (c_X10_count (sub_cs hcs (Nat.le_of_ble_eq_true rfl) (Nat.le_of_ble_eq_true rfl)) M 0 x9 h8) (hcs 0 (Nat.le_of_ble_eq_true rfl) (Nat.le_of_ble_eq_true rfl)) sh_0 rfl rfl rfl ⟨Nat.le_of_ble_eq_true rfl, Nat.le_of_ble_eq_true rfl⟩ (Nat.le_of_ble_eq_true rfl) dL_around_23 ?_
    show VV X 16 ad cs M 26 [(3, .int x7), (0, .ref (ad 0)), (1, .int w1), (2, .int x2)] [.int x9]
    refine v_iconst (pc := 26) hX dL_around_26 ic_2 ?_
    obtain ⟨k10, ek10, h⟩ := bd_e h
    have K11 : ∀ (x12 : Int32), k10 x12 = some q → VV X 16 ad cs M 35 [(0, .ref (ad 0)), (1, .int w1), (2, .int x2), (3, .int x7)] [.int x12] := by
      intro x12 h
      subst ek10
      refine v_istore (pc := 35) [(4, .int x12), (0, .ref (ad 0)), (1, .int w1), (2, .int x2), (3, .int x7)] hX dL_around_35 (by decide) rfl ?_
      refine v_ldc2 (pc := 37) hX kc_L_101 dL_around_37 ?_
      refine v_lstore (pc := 40) [(5, .long 40000000000), (4, .int x12), (0, .ref (ad 0)), (1, .int w1), (2, .int x2), (3, .int x7)] hX dL_around_40 (by decide) rfl ?_
      refine v_iconst (pc := 42) hX dL_around_42 ic_0 ?_
      refine v_istore (pc := 43) [(7, .int 0), (5, .long 40000000000), (4, .int x12), (0, .ref (ad 0)), (1, .int w1), (2, .int x2), (3, .int x7)] hX dL_around_43 (by decide) rfl ?_
      refine v_iconst (pc := 45) hX dL_around_45 ic_0 ?_
      refine v_istore (pc := 46) [(8, .int 0), (7, .int 0), (5, .long 40000000000), (4, .int x12), (0, .ref (ad 0)), (1, .int w1), (2, .int x2), (3, .int x7)] hX dL_around_46 (by decide) rfl ?_
      refine v_iconst (pc := 48) hX dL_around_48 ic_0 ?_
      refine v_istore (pc := 49) [(9, .int 0), (8, .int 0), (7, .int 0), (5, .long 40000000000), (4, .int x12), (0, .ref (ad 0)), (1, .int w1), (2, .int x2), (3, .int x7)] hX dL_around_49 (by decide) rfl ?_
      refine v_iload_n (pc := 51) 6 hX dL_around_51 rfl ?_
      refine v_ineg (pc := 52) hX dL_around_52 ?_
      obtain ⟨x13, ex13, h⟩ := bd_e h
      refine v_top ex13 ?_
      refine v_istore (pc := 53) [(10, .int x13), (9, .int 0), (8, .int 0), (7, .int 0), (5, .long 40000000000), (4, .int x12), (0, .ref (ad 0)), (1, .int w1), (2, .int x2), (3, .int x7)] hX dL_around_53 (by decide) rfl ?_
      have L72 := v_itr (fL_around_L55 w1 x7 x12 M x2) (fun z => VV X 16 ad cs M 55 [(0, .ref (ad 0)), (1, .int w1), (2, .int x2), (3, .int x7), (4, .int x12), (5, .long z.1), (7, .int z.2.1), (8, .int z.2.2.1), (9, .int z.2.2.2.1), (10, .int z.2.2.2.2)] []) (fun z => VV X 16 ad cs M 192 [(0, .ref (ad 0)), (1, .int w1), (7, .int z.1), (8, .int z.2.1), (9, .int z.2.2)] []) (by
        rintro ⟨y14, x15, x16, x17, x18⟩ q h hK
        unfold fL_around_L55 at h
        have h := u5_b h
        show VV X 16 ad cs M 55 [(0, .ref (ad 0)), (1, .int w1), (2, .int x2), (3, .int x7), (4, .int x12), (5, .long y14), (7, .int x15), (8, .int x16), (9, .int x17), (10, .int x18)] []
        refine v_iload (pc := 55) 9 hX dL_around_55 rfl ?_
        refine v_iload_n (pc := 57) 1 hX dL_around_57 rfl ?_
        refine v_icmp_gt (pc := 58) (tgt := 192) hX dL_around_58 (by decide) (fun h19 => ?_) (fun h19 => ?_)
        · have h := if_t h h19
          obtain rfl := Option.some.inj h
          exact v_sub [0, 1, 6, 7, 8] rfl hK
        · have h := if_f h h19
          refine v_iload_n (pc := 61) 3 hX dL_around_61 rfl ?_
          refine v_ineg (pc := 62) hX dL_around_62 ?_
          obtain ⟨x20, ex20, h⟩ := bd_e h
          refine v_top ex20 ?_
          refine v_istore (pc := 63) [(11, .int x20), (0, .ref (ad 0)), (1, .int w1), (2, .int x2), (3, .int x7), (4, .int x12), (5, .long y14), (7, .int x15), (8, .int x16), (9, .int x17), (10, .int x18)] hX dL_around_63 (by decide) rfl ?_
          have L65 := v_itr (fL_around_L65 x7 x12 M x2 x18) (fun z => VV X 16 ad cs M 65 [(0, .ref (ad 0)), (1, .int w1), (2, .int x2), (3, .int x7), (4, .int x12), (5, .long z.1), (7, .int z.2.1), (8, .int z.2.2.1), (9, .int z.2.2.2.1), (10, .int x18), (11, .int z.2.2.2.2)] []) (fun z => VV X 16 ad cs M 186 [(0, .ref (ad 0)), (1, .int w1), (2, .int x2), (3, .int x7), (4, .int x12), (5, .long z.1), (7, .int z.2.1), (8, .int z.2.2.1), (9, .int z.2.2.2), (10, .int x18)] []) (by
            rintro ⟨y21, x22, x23, x24, x25⟩ q h hK
            unfold fL_around_L65 at h
            have h := u5_b h
            show VV X 16 ad cs M 65 [(0, .ref (ad 0)), (1, .int w1), (2, .int x2), (3, .int x7), (4, .int x12), (5, .long y21), (7, .int x22), (8, .int x23), (9, .int x24), (10, .int x18), (11, .int x25)] []
            refine v_iload (pc := 65) 10 hX dL_around_65 rfl ?_
            refine v_iload_n (pc := 67) 3 hX dL_around_67 rfl ?_
            refine v_icmp_gt (pc := 68) (tgt := 186) hX dL_around_68 (by decide) (fun h26 => ?_) (fun h26 => ?_)
            · have h := if_t h h26
              obtain rfl := Option.some.inj h
              exact v_sub [0, 1, 2, 3, 4, 5, 6, 7, 8, 9] rfl hK
            · have h := if_f h h26
              refine v_iload (pc := 71) 4 hX dL_around_71 rfl ?_
              refine v_ineg (pc := 73) hX dL_around_73 ?_
              obtain ⟨x27, ex27, h⟩ := bd_e h
              refine v_top ex27 ?_
              refine v_istore (pc := 74) [(12, .int x27), (0, .ref (ad 0)), (1, .int w1), (2, .int x2), (3, .int x7), (4, .int x12), (5, .long y21), (7, .int x22), (8, .int x23), (9, .int x24), (10, .int x18), (11, .int x25)] hX dL_around_74 (by decide) rfl ?_
              have L58 := v_itr (fL_around_L76 x12 M x2 x18 x25) (fun z => VV X 16 ad cs M 76 [(0, .ref (ad 0)), (1, .int w1), (2, .int x2), (3, .int x7), (4, .int x12), (5, .long z.1), (7, .int z.2.1), (8, .int z.2.2.1), (9, .int z.2.2.2.1), (10, .int x18), (11, .int x25), (12, .int z.2.2.2.2)] []) (fun z => VV X 16 ad cs M 180 [(0, .ref (ad 0)), (1, .int w1), (2, .int x2), (3, .int x7), (4, .int x12), (5, .long z.1), (7, .int z.2.1), (8, .int z.2.2.1), (9, .int z.2.2.2), (10, .int x18), (11, .int x25)] []) (by
                rintro ⟨y28, x29, x30, x31, x32⟩ q h hK
                unfold fL_around_L76 at h
                have h := u5_b h
                show VV X 16 ad cs M 76 [(0, .ref (ad 0)), (1, .int w1), (2, .int x2), (3, .int x7), (4, .int x12), (5, .long y28), (7, .int x29), (8, .int x30), (9, .int x31), (10, .int x18), (11, .int x25), (12, .int x32)] []
                refine v_iload (pc := 76) 11 hX dL_around_76 rfl ?_
                refine v_iload (pc := 78) 4 hX dL_around_78 rfl ?_
                refine v_icmp_gt (pc := 80) (tgt := 180) hX dL_around_80 (by decide) (fun h33 => ?_) (fun h33 => ?_)
                · have h := if_t h h33
                  obtain rfl := Option.some.inj h
                  exact v_sub [0, 1, 2, 3, 4, 5, 6, 7, 8, 9, 10] rfl hK
                · have h := if_f h h33
                  refine v_aload_n (pc := 83) 0 hX dL_around_83 rfl ?_
                  refine v_iconst (pc := 84) hX dL_around_84 ic_0 ?_
                  obtain ⟨x35, h34, h⟩ := b1_e h
                  refine v_callV (pc := 85) [.int 0] (some (.int x35)) M hX cv_L_55 (c_X10_searchOf (sub_cs hcs (Nat.le_of_ble_eq_true rfl) (Nat.le_of_ble_eq_true rfl)) M 0 x35 h34) (hcs 0 (Nat.le_of_ble_eq_true rfl) (Nat.le_of_ble_eq_true rfl)) sh_0 rfl rfl rfl ⟨Nat.le_of_ble_eq_true rfl, Nat.le_of_ble_eq_true rfl⟩ (Nat.le_of_ble_eq_true rfl) dL_around_85 ?_
                  show VV X 16 ad cs M 88 [(0, .ref (ad 0)), (1, .int w1), (2, .int x2), (3, .int x7), (4, .int x12), (5, .long y28), (7, .int x29), (8, .int x30), (9, .int x31), (10, .int x18), (11, .int x25), (12, .int x32)] [.int x35]
                  refine v_iload_n (pc := 88) 2 hX dL_around_88 rfl ?_
                  refine v_iload (pc := 89) 9 hX dL_around_89 rfl ?_
                  refine v_imul (pc := 91) hX dL_around_91 ?_
                  refine v_iadd (pc := 92) hX dL_around_92 ?_
                  obtain ⟨x36, ex36, h⟩ := bd_e h
                  refine v_top ex36 ?_
                  refine v_istore (pc := 93) [(13, .int x36), (0, .ref (ad 0)), (1, .int w1), (2, .int x2), (3, .int x7), (4, .int x12), (5, .long y28), (7, .int x29), (8, .int x30), (9, .int x31), (10, .int x18), (11, .int x25), (12, .int x32)] hX dL_around_93 (by decide) rfl ?_
                  refine v_aload_n (pc := 95) 1 hX dL_around_95 rfl ?_
                  refine v_iconst (pc := 96) hX dL_around_96 ic_1 ?_
                  obtain ⟨x38, h37, h⟩ := b1_e h
                  refine v_callV (pc := 97) [.int 1] (some (.int x38)) M hX cv_L_55 (c_X10_searchOf (sub_cs hcs (Nat.le_of_ble_eq_true rfl) (Nat.le_of_ble_eq_true rfl)) M 1 x38 h37) (hcs 0 (Nat.le_of_ble_eq_true rfl) (Nat.le_of_ble_eq_true rfl)) sh_0 rfl rfl rfl ⟨Nat.le_of_ble_eq_true rfl, Nat.le_of_ble_eq_true rfl⟩ (Nat.le_of_ble_eq_true rfl) dL_around_97 ?_
                  show VV X 16 ad cs M 100 [(13, .int x36), (0, .ref (ad 0)), (1, .int w1), (2, .int x2), (3, .int x7), (4, .int x12), (5, .long y28), (7, .int x29), (8, .int x30), (9, .int x31), (10, .int x18), (11, .int x25), (12, .int x32)] [.int x38]
                  refine v_iload_n (pc := 100) 3 hX dL_around_100 rfl ?_
                  refine v_iload (pc := 101) 11 hX dL_around_101 rfl ?_
                  refine v_imul (pc := 103) hX dL_around_103 ?_
                  refine v_iadd (pc := 104) hX dL_around_104 ?_
                  obtain ⟨x39, ex39, h⟩ := bd_e h
                  refine v_top ex39 ?_
                  refine v_istore (pc := 105) [(14, .int x39), (13, .int x36), (0, .ref (ad 0)), (1, .int w1), (2, .int x2), (3, .int x7), (4, .int x12), (5, .long y28), (7, .int x29), (8, .int x30), (9, .int x31), (10, .int x18), (11, .int x25), (12, .int x32)] hX dL_around_105 (by decide) rfl ?_
                  refine v_aload_n (pc := 107) 2 hX dL_around_107 rfl ?_
                  refine v_iconst (pc := 108) hX dL_around_108 ic_2 ?_
                  obtain ⟨x41, h40, h⟩ := b1_e h
                  refine v_callV (pc := 109) [.int 2] (some (.int x41)) M hX cv_L_55 (c_X10_searchOf (sub_cs hcs (Nat.le_of_ble_eq_true rfl) (Nat.le_of_ble_eq_true rfl)) M 2 x41 h40) (hcs 0 (Nat.le_of_ble_eq_true rfl) (Nat.le_of_ble_eq_true rfl)) sh_0 rfl rfl rfl ⟨Nat.le_of_ble_eq_true rfl, Nat.le_of_ble_eq_true rfl⟩ (Nat.le_of_ble_eq_true rfl) dL_around_109 ?_
                  show VV X 16 ad cs M 112 [(14, .int x39), (13, .int x36), (0, .ref (ad 0)), (1, .int w1), (2, .int x2), (3, .int x7), (4, .int x12), (5, .long y28), (7, .int x29), (8, .int x30), (9, .int x31), (10, .int x18), (11, .int x25), (12, .int x32)] [.int x41]
                  refine v_iload_n (pc := 112) 4 hX dL_around_112 rfl ?_
                  refine v_iload (pc := 113) 13 hX dL_around_113 rfl ?_
                  refine v_imul (pc := 115) hX dL_around_115 ?_
                  refine v_iadd (pc := 116) hX dL_around_116 ?_
                  obtain ⟨x42, ex42, h⟩ := bd_e h
                  refine v_top ex42 ?_
                  refine v_istore (pc := 117) [(15, .int x42), (14, .int x39), (13, .int x36), (0, .ref (ad 0)), (1, .int w1), (2, .int x2), (3, .int x7), (4, .int x12), (5, .long y28), (7, .int x29), (8, .int x30), (9, .int x31), (10, .int x18), (11, .int x25), (12, .int x32)] hX dL_around_117 (by decide) rfl ?_
                  refine v_aload_n (pc := 119) 3 hX dL_around_119 rfl ?_
                  refine v_iload (pc := 120) 2 hX dL_around_120 rfl ?_
                  refine v_iload (pc := 122) 1 hX dL_around_122 rfl ?_
                  refine v_iload (pc := 124) 0 hX dL_around_124 rfl ?_
                  obtain ⟨x44, h43, h⟩ := b1_e h
                  refine v_callS (pc := 126) [.ref (ad 0), .int x36, .int x39, .int x42] (some (.int x44)) M hX cv_L_65 (c_L_isAllowed (sub_cs hcs (Nat.le_of_ble_eq_true rfl) (Nat.le_of_ble_eq_true rfl)) M x36 x39 x42 x44 h43) rfl rfl ⟨Nat.le_of_ble_eq_true rfl, Nat.le_of_ble_eq_true rfl⟩ (Nat.le_of_ble_eq_true rfl) dL_around_126 ?_
                  show VV X 16 ad cs M 129 [(15, .int x42), (14, .int x39), (13, .int x36), (0, .ref (ad 0)), (1, .int w1), (2, .int x2), (3, .int x7), (4, .int x12), (5, .long y28), (7, .int x29), (8, .int x30), (9, .int x31), (10, .int x18), (11, .int x25), (12, .int x32)] [.int x44]
                  obtain ⟨k45, ek45, h⟩ := bd_e h
                  have K46 : ∀ (y47 : Int64) (x48 : Int32) (x49 : Int32) (x50 : Int32), k45 y47 x48 x49 x50 = some q → VV X 16 ad cs M 174 [(0, .ref (ad 0)), (1, .int w1), (2, .int x2), (3, .int x7), (4, .int x12), (5, .long y47), (7, .int x48), (8, .int x49), (9, .int x50), (10, .int x18), (11, .int x25), (12, .int x32)] [] := by
                    intro y47 x48 x49 x50 h
                    subst ek45
                    obtain ⟨x51, ex51, h⟩ := bd_e h
                    refine v_iinc (v := x51) (pc := 174) 11 [(12, .int x51), (0, .ref (ad 0)), (1, .int w1), (2, .int x2), (3, .int x7), (4, .int x12), (5, .long y47), (7, .int x48), (8, .int x49), (9, .int x50), (10, .int x18), (11, .int x25)] hX dL_around_174 rfl (ex51.trans (by rw [ic_1])) (by decide) rfl ?_
                    refine v_goto (pc := 177) (tgt := 76) hX dL_around_177 (by decide) ?_
                    obtain rfl := Option.some.inj h
                    exact v_sub [1, 2, 3, 4, 5, 6, 7, 8, 9, 10, 11, 0] rfl hK
                  refine v_if_eq (pc := 129) (tgt := 174) hX dL_around_129 (by decide) (fun h52 => ?_) (fun h52 => ?_)
                  · have h := if_t h h52
                    exact v_sub [3, 4, 5, 6, 7, 8, 9, 10, 11, 12, 13, 14] rfl (K46 y28 x29 x30 x31 h)
                  · have h := if_f h h52
                    refine v_aload_n (pc := 132) 3 hX dL_around_132 rfl ?_
                    refine v_iload (pc := 133) 2 hX dL_around_133 rfl ?_
                    refine v_iload (pc := 135) 1 hX dL_around_135 rfl ?_
                    refine v_iload (pc := 137) 0 hX dL_around_137 rfl ?_
                    refine v_iconst (pc := 139) hX dL_around_139 ic_0 ?_
                    obtain ⟨y54, h53, h⟩ := b1_e h
                    refine v_callV (pc := 140) [.int x36, .int x39, .int x42, .int 0] (some (.long y54)) M hX cv_L_69 (c_X10_value (sub_cs hcs (Nat.le_of_ble_eq_true rfl) (Nat.le_of_ble_eq_true rfl)) M x36 x39 x42 0 y54 h53) (hcs 0 (Nat.le_of_ble_eq_true rfl) (Nat.le_of_ble_eq_true rfl)) sh_0 rfl rfl rfl ⟨Nat.le_of_ble_eq_true rfl, Nat.le_of_ble_eq_true rfl⟩ (Nat.le_of_ble_eq_true rfl) dL_around_140 ?_
                    show VV X 16 ad cs M 143 [(15, .int x42), (14, .int x39), (13, .int x36), (0, .ref (ad 0)), (1, .int w1), (2, .int x2), (3, .int x7), (4, .int x12), (5, .long y28), (7, .int x29), (8, .int x30), (9, .int x31), (10, .int x18), (11, .int x25), (12, .int x32)] [.long y54]
                    refine v_lload (pc := 143) 8 hX dL_around_143 rfl ?_
                    refine v_lcmp (pc := 145) hX dL_around_145 ?_
                    refine v_if_ge (pc := 146) (tgt := 174) hX dL_around_146 (by decide) (fun h55 => ?_) (fun h55 => ?_)
                    · have h := if_t h h55
                      exact v_sub [3, 4, 5, 6, 7, 8, 9, 10, 11, 12, 13, 14] rfl (K46 y28 x29 x30 x31 h)
                    · have h := if_f h h55
                      refine v_aload_n (pc := 149) 3 hX dL_around_149 rfl ?_
                      refine v_iload (pc := 150) 2 hX dL_around_150 rfl ?_
                      refine v_iload (pc := 152) 1 hX dL_around_152 rfl ?_
                      refine v_iload (pc := 154) 0 hX dL_around_154 rfl ?_
                      refine v_iconst (pc := 156) hX dL_around_156 ic_0 ?_
                      obtain ⟨y57, h56, h⟩ := b1_e h
                      refine v_callV (pc := 157) [.int x36, .int x39, .int x42, .int 0] (some (.long y57)) M hX cv_L_69 (c_X10_value (sub_cs hcs (Nat.le_of_ble_eq_true rfl) (Nat.le_of_ble_eq_true rfl)) M x36 x39 x42 0 y57 h56) (hcs 0 (Nat.le_of_ble_eq_true rfl) (Nat.le_of_ble_eq_true rfl)) sh_0 rfl rfl rfl ⟨Nat.le_of_ble_eq_true rfl, Nat.le_of_ble_eq_true rfl⟩ (Nat.le_of_ble_eq_true rfl) dL_around_157 ?_
                      show VV X 16 ad cs M 160 [(15, .int x42), (14, .int x39), (13, .int x36), (0, .ref (ad 0)), (1, .int w1), (2, .int x2), (3, .int x7), (4, .int x12), (5, .long y28), (7, .int x29), (8, .int x30), (9, .int x31), (10, .int x18), (11, .int x25), (12, .int x32)] [.long y57]
                      refine v_lstore (pc := 160) [(5, .long y57), (15, .int x42), (14, .int x39), (13, .int x36), (0, .ref (ad 0)), (1, .int w1), (2, .int x2), (3, .int x7), (4, .int x12), (7, .int x29), (8, .int x30), (9, .int x31), (10, .int x18), (11, .int x25), (12, .int x32)] hX dL_around_160 (by decide) rfl ?_
                      refine v_iload (pc := 162) 3 hX dL_around_162 rfl ?_
                      refine v_istore (pc := 164) [(7, .int x36), (5, .long y57), (15, .int x42), (14, .int x39), (13, .int x36), (0, .ref (ad 0)), (1, .int w1), (2, .int x2), (3, .int x7), (4, .int x12), (8, .int x30), (9, .int x31), (10, .int x18), (11, .int x25), (12, .int x32)] hX dL_around_164 (by decide) rfl ?_
                      refine v_iload (pc := 166) 3 hX dL_around_166 rfl ?_
                      refine v_istore (pc := 168) [(8, .int x39), (7, .int x36), (5, .long y57), (15, .int x42), (14, .int x39), (13, .int x36), (0, .ref (ad 0)), (1, .int w1), (2, .int x2), (3, .int x7), (4, .int x12), (9, .int x31), (10, .int x18), (11, .int x25), (12, .int x32)] hX dL_around_168 (by decide) rfl ?_
                      refine v_iload (pc := 170) 3 hX dL_around_170 rfl ?_
                      refine v_istore (pc := 172) [(9, .int x42), (8, .int x39), (7, .int x36), (5, .long y57), (15, .int x42), (14, .int x39), (13, .int x36), (0, .ref (ad 0)), (1, .int w1), (2, .int x2), (3, .int x7), (4, .int x12), (10, .int x18), (11, .int x25), (12, .int x32)] hX dL_around_172 (by decide) rfl ?_
                      exact v_sub [7, 8, 9, 10, 11, 3, 2, 1, 0, 12, 13, 14] rfl (K46 y57 x36 x39 x42 h)
              )
              obtain ⟨y59, x60, x61, x62, h64, h⟩ := b4_e h
              refine v_sub [1, 2, 3, 4, 5, 6, 7, 8, 9, 10, 11, 0] rfl ?_
              refine L58 1000 _ _ h64 ?_
              show VV X 16 ad cs M 180 [(0, .ref (ad 0)), (1, .int w1), (2, .int x2), (3, .int x7), (4, .int x12), (5, .long y59), (7, .int x60), (8, .int x61), (9, .int x62), (10, .int x18), (11, .int x25)] []
              obtain ⟨x63, ex63, h⟩ := bd_e h
              refine v_iinc (v := x63) (pc := 180) 10 [(11, .int x63), (0, .ref (ad 0)), (1, .int w1), (2, .int x2), (3, .int x7), (4, .int x12), (5, .long y59), (7, .int x60), (8, .int x61), (9, .int x62), (10, .int x18)] hX dL_around_180 rfl (ex63.trans (by rw [ic_1])) (by decide) rfl ?_
              refine v_goto (pc := 183) (tgt := 65) hX dL_around_183 (by decide) ?_
              obtain rfl := Option.some.inj h
              exact v_sub [1, 2, 3, 4, 5, 6, 7, 8, 9, 10, 0] rfl hK
          )
          obtain ⟨y66, x67, x68, x69, h71, h⟩ := b4_e h
          refine v_sub [1, 2, 3, 4, 5, 6, 7, 8, 9, 10, 0] rfl ?_
          refine L65 1000 _ _ h71 ?_
          show VV X 16 ad cs M 186 [(0, .ref (ad 0)), (1, .int w1), (2, .int x2), (3, .int x7), (4, .int x12), (5, .long y66), (7, .int x67), (8, .int x68), (9, .int x69), (10, .int x18)] []
          obtain ⟨x70, ex70, h⟩ := bd_e h
          refine v_iinc (v := x70) (pc := 186) 9 [(10, .int x70), (0, .ref (ad 0)), (1, .int w1), (2, .int x2), (3, .int x7), (4, .int x12), (5, .long y66), (7, .int x67), (8, .int x68), (9, .int x69)] hX dL_around_186 rfl (ex70.trans (by rw [ic_1])) (by decide) rfl ?_
          refine v_goto (pc := 189) (tgt := 55) hX dL_around_189 (by decide) ?_
          obtain rfl := Option.some.inj h
          exact v_sub [1, 2, 3, 4, 5, 6, 7, 8, 9, 0] rfl hK
      )
      obtain ⟨x73, x74, x75, h88, h⟩ := b3_e h
      refine v_sub [6, 7, 8, 9, 5, 4, 3, 2, 1, 0] rfl ?_
      refine L72 1000 _ _ h88 ?_
      show VV X 16 ad cs M 192 [(0, .ref (ad 0)), (1, .int w1), (7, .int x73), (8, .int x74), (9, .int x75)] []
      refine v_aload_n (pc := 192) 0 hX dL_around_192 rfl ?_
      refine v_iload_n (pc := 193) 1 hX dL_around_193 rfl ?_
      refine v_iconst (pc := 194) hX dL_around_194 ic_0 ?_
      obtain ⟨x77, M78, h76, h⟩ := b2_e h
      refine v_callV (pc := 195) [.int w1, .int 0] (some (.int x77)) M78 hX cv_L_103 (c_X10_around (sub_cs hcs (Nat.le_of_ble_eq_true rfl) (Nat.le_of_ble_eq_true rfl)) M w1 0 (x77, M78) h76) (hcs 0 (Nat.le_of_ble_eq_true rfl) (Nat.le_of_ble_eq_true rfl)) sh_0 rfl rfl rfl ⟨Nat.le_of_ble_eq_true rfl, Nat.le_of_ble_eq_true rfl⟩ (Nat.le_of_ble_eq_true rfl) dL_around_195 ?_
      show VV X 16 ad cs M78 198 [(0, .ref (ad 0)), (1, .int w1), (7, .int x73), (8, .int x74), (9, .int x75)] [.int x77]
      refine v_iload (pc := 198) 2 hX dL_around_198 rfl ?_
      refine v_icmp_ne (pc := 200) (tgt := 229) hX dL_around_200 (by decide) (fun h79 => ?_) (fun h79 => ?_)
      · have h := if_f h h79
        refine v_iconst (pc := 229) hX dL_around_229 ic_0 ?_
        obtain rfl := Option.some.inj h
        exact v_zret (pc := 230) hX hR (Or.inl rfl) dL_around_230
      · have h := if_t h h79
        refine v_aload_n (pc := 203) 0 hX dL_around_203 rfl ?_
        refine v_iload_n (pc := 204) 1 hX dL_around_204 rfl ?_
        refine v_iconst (pc := 205) hX dL_around_205 ic_1 ?_
        obtain ⟨x81, M82, h80, h⟩ := b2_e h
        refine v_callV (pc := 206) [.int w1, .int 1] (some (.int x81)) M82 hX cv_L_103 (c_X10_around (sub_cs hcs (Nat.le_of_ble_eq_true rfl) (Nat.le_of_ble_eq_true rfl)) M78 w1 1 (x81, M82) h80) (hcs 0 (Nat.le_of_ble_eq_true rfl) (Nat.le_of_ble_eq_true rfl)) sh_0 rfl rfl rfl ⟨Nat.le_of_ble_eq_true rfl, Nat.le_of_ble_eq_true rfl⟩ (Nat.le_of_ble_eq_true rfl) dL_around_206 ?_
        show VV X 16 ad cs M82 209 [(0, .ref (ad 0)), (1, .int w1), (7, .int x73), (8, .int x74), (9, .int x75)] [.int x81]
        refine v_iload (pc := 209) 3 hX dL_around_209 rfl ?_
        refine v_icmp_ne (pc := 211) (tgt := 229) hX dL_around_211 (by decide) (fun h83 => ?_) (fun h83 => ?_)
        · have h := if_f h h83
          refine v_iconst (pc := 229) hX dL_around_229 ic_0 ?_
          obtain rfl := Option.some.inj h
          exact v_zret (pc := 230) hX hR (Or.inl rfl) dL_around_230
        · have h := if_t h h83
          refine v_aload_n (pc := 214) 0 hX dL_around_214 rfl ?_
          refine v_iload_n (pc := 215) 1 hX dL_around_215 rfl ?_
          refine v_iconst (pc := 216) hX dL_around_216 ic_2 ?_
          obtain ⟨x85, M86, h84, h⟩ := b2_e h
          refine v_callV (pc := 217) [.int w1, .int 2] (some (.int x85)) M86 hX cv_L_103 (c_X10_around (sub_cs hcs (Nat.le_of_ble_eq_true rfl) (Nat.le_of_ble_eq_true rfl)) M82 w1 2 (x85, M86) h84) (hcs 0 (Nat.le_of_ble_eq_true rfl) (Nat.le_of_ble_eq_true rfl)) sh_0 rfl rfl rfl ⟨Nat.le_of_ble_eq_true rfl, Nat.le_of_ble_eq_true rfl⟩ (Nat.le_of_ble_eq_true rfl) dL_around_217 ?_
          show VV X 16 ad cs M86 220 [(0, .ref (ad 0)), (1, .int w1), (7, .int x73), (8, .int x74), (9, .int x75)] [.int x85]
          refine v_iload (pc := 220) 4 hX dL_around_220 rfl ?_
          refine v_icmp_ne (pc := 222) (tgt := 229) hX dL_around_222 (by decide) (fun h87 => ?_) (fun h87 => ?_)
          · have h := if_f h h87
            refine v_iconst (pc := 229) hX dL_around_229 ic_0 ?_
            obtain rfl := Option.some.inj h
            exact v_zret (pc := 230) hX hR (Or.inl rfl) dL_around_230
          · have h := if_t h h87
            refine v_iconst (pc := 225) hX dL_around_225 ic_1 ?_
            refine v_goto (pc := 226) (tgt := 230) hX dL_around_226 (by decide) ?_
            obtain rfl := Option.some.inj h
            exact v_zret (pc := 230) hX hR (Or.inr rfl) dL_around_230
    refine v_icmp_le (pc := 27) (tgt := 34) hX dL_around_27 (by decide) (fun h89 => ?_) (fun h89 => ?_)
    · have h := if_t h h89
      refine v_iconst (pc := 34) hX dL_around_34 ic_0 ?_
      exact v_sub [1, 2, 3, 0] rfl (K11 0 h)
    · have h := if_f h h89
      refine v_iload_n (pc := 30) 2 hX dL_around_30 rfl ?_
      refine v_goto (pc := 31) (tgt := 35) hX dL_around_31 (by decide) ?_
      exact v_sub [1, 2, 3, 0] rfl (K11 w1 h)
  refine v_icmp_le (pc := 12) (tgt := 19) hX dL_around_12 (by decide) (fun h90 => ?_) (fun h90 => ?_)
  · have h := if_t h h90
    refine v_iconst (pc := 19) hX dL_around_19 ic_0 ?_
    exact v_sub [1, 2, 0] rfl (K6 0 h)
  · have h := if_f h h90
    refine v_iload_n (pc := 15) 2 hX dL_around_15 rfl ?_
    refine v_goto (pc := 16) (tgt := 20) hX dL_around_16 (by decide) ?_
    exact v_sub [1, 2, 0] rfl (K6 w1 h)
