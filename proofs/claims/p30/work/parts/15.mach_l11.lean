set_option maxHeartbeats 4000000 in
set_option maxRecDepth 100000 in
theorem c_X10_directionOf {ad : Nat → Nat} {cs : List Nat} (hcs : ∀ k, 0 ≤ k → k < 11 → k ∈ cs) (M : Mm) (w1 : Int32) (w2 : Int32) (q : Int32) (h : fX10_directionOf M w1 w2 = some q) : CT ad cs yX10_directionOf cX10_directionOf 3 (some .int) 1 22 [.ref (ad 0), .int w1, .int w2] M (some (.int q)) M := by
  refine CT.of RX10 (by decide +kernel) rfl (Nat.le_of_ble_eq_true rfl) (fun X hX hR => ?_)
  unfold fX10_directionOf at h
  show VV X 3 ad cs M 0 [(0, .ref (ad 0)), (1, .int w1), (2, .int w2)] []
  refine v_iload_n (pc := 0) 1 hX dX10_directionOf_0 rfl ?_
  refine v_if_lt (pc := 1) (tgt := 13) hX dX10_directionOf_1 (by decide) (fun h1 => ?_) (fun h1 => ?_)
  · have h := if_t h h1
    refine v_ldc (pc := 13) hX kc_10_66 dX10_directionOf_13 ?_
    obtain rfl := Option.some.inj h
    exact v_iret (pc := 15) hX hR dX10_directionOf_15
  · have h := if_f h h1
    refine v_iload_n (pc := 4) 2 hX dX10_directionOf_4 rfl ?_
    refine v_iconst (pc := 5) hX dX10_directionOf_5 ic_0 ?_
    refine v_iconst (pc := 6) hX dX10_directionOf_6 ic_3 ?_
    obtain ⟨x3, h2, h⟩ := b1_e h
    refine v_callS (pc := 7) [.int w2, .int 0, .int 3] (some (.int x3)) M hX cv_10_62 (c_X10_within M w2 0 3 x3 h2) rfl rfl ⟨Nat.le_of_ble_eq_true rfl, Nat.le_of_ble_eq_true rfl⟩ (Nat.le_of_ble_eq_true rfl) dX10_directionOf_7 ?_
    show VV X 3 ad cs M 10 [(0, .ref (ad 0)), (1, .int w1), (2, .int w2)] [.int x3]
    refine v_if_ne (pc := 10) (tgt := 16) hX dX10_directionOf_10 (by decide) (fun h4 => ?_) (fun h4 => ?_)
    · have h := if_f h h4
      refine v_iload_n (pc := 16) 1 hX dX10_directionOf_16 rfl ?_
      refine v_aload_n (pc := 17) 0 hX dX10_directionOf_17 rfl ?_
      refine v_getR (pc := 18) (t := 1) hX (hcs 0 (Nat.le_of_ble_eq_true rfl) (Nat.le_of_ble_eq_true rfl)) sh_0 fl_10_10 rfl dX10_directionOf_18 ?_
      refine v_getR (pc := 21) (t := 8) hX (hcs 1 (Nat.le_of_ble_eq_true rfl) (Nat.le_of_ble_eq_true rfl)) sh_1 fl_10_125 rfl dX10_directionOf_21 ?_
      refine v_getI (pc := 24) hX (hcs 8 (Nat.le_of_ble_eq_true rfl) (Nat.le_of_ble_eq_true rfl)) sh_8 fl_10_134 rfl dX10_directionOf_24 ?_
      refine v_icmp_lt (pc := 27) (tgt := 33) hX dX10_directionOf_27 (by decide) (fun h5 => ?_) (fun h5 => ?_)
      · have h := if_t h h5
        refine v_iload_n (pc := 33) 2 hX dX10_directionOf_33 rfl ?_
        refine v_iconst (pc := 34) hX dX10_directionOf_34 ic_3 ?_
        refine v_icmp_ne (pc := 35) (tgt := 51) hX dX10_directionOf_35 (by decide) (fun h6 => ?_) (fun h6 => ?_)
        · have h := if_f h h6
          refine v_aload_n (pc := 51) 0 hX dX10_directionOf_51 rfl ?_
          refine v_getR (pc := 52) (t := 1) hX (hcs 0 (Nat.le_of_ble_eq_true rfl) (Nat.le_of_ble_eq_true rfl)) sh_0 fl_10_10 rfl dX10_directionOf_52 ?_
          refine v_getR (pc := 55) (t := 8) hX (hcs 1 (Nat.le_of_ble_eq_true rfl) (Nat.le_of_ble_eq_true rfl)) sh_1 fl_10_125 rfl dX10_directionOf_55 ?_
          refine v_getR (pc := 58) (t := 9) hX (hcs 8 (Nat.le_of_ble_eq_true rfl) (Nat.le_of_ble_eq_true rfl)) sh_8 fl_10_185 rfl dX10_directionOf_58 ?_
          refine v_iconst (pc := 61) hX dX10_directionOf_61 ic_3 ?_
          refine v_iload_n (pc := 62) 1 hX dX10_directionOf_62 rfl ?_
          refine v_imul (pc := 63) hX dX10_directionOf_63 ?_
          refine v_iload_n (pc := 64) 2 hX dX10_directionOf_64 rfl ?_
          refine v_iadd (pc := 65) hX dX10_directionOf_65 ?_
          obtain ⟨g7, h⟩ := gd_e h
          refine v_iald (pc := 66) hX (hcs 9 (Nat.le_of_ble_eq_true rfl) (Nat.le_of_ble_eq_true rfl)) sh_9 g7 rfl dX10_directionOf_66 ?_
          obtain rfl := Option.some.inj h
          exact v_iret (pc := 67) hX hR dX10_directionOf_67
        · have h := if_t h h6
          refine v_aload_n (pc := 38) 0 hX dX10_directionOf_38 rfl ?_
          refine v_getR (pc := 39) (t := 1) hX (hcs 0 (Nat.le_of_ble_eq_true rfl) (Nat.le_of_ble_eq_true rfl)) sh_0 fl_10_10 rfl dX10_directionOf_39 ?_
          refine v_getR (pc := 42) (t := 8) hX (hcs 1 (Nat.le_of_ble_eq_true rfl) (Nat.le_of_ble_eq_true rfl)) sh_1 fl_10_125 rfl dX10_directionOf_42 ?_
          refine v_getR (pc := 45) (t := 10) hX (hcs 8 (Nat.le_of_ble_eq_true rfl) (Nat.le_of_ble_eq_true rfl)) sh_8 fl_10_182 rfl dX10_directionOf_45 ?_
          refine v_iload_n (pc := 48) 1 hX dX10_directionOf_48 rfl ?_
          obtain ⟨g8, h⟩ := gd_e h
          refine v_iald (pc := 49) hX (hcs 10 (Nat.le_of_ble_eq_true rfl) (Nat.le_of_ble_eq_true rfl)) sh_10 g8 rfl dX10_directionOf_49 ?_
          obtain rfl := Option.some.inj h
          exact v_iret (pc := 50) hX hR dX10_directionOf_50
      · have h := if_f h h5
        refine v_ldc (pc := 30) hX kc_10_178 dX10_directionOf_30 ?_
        obtain rfl := Option.some.inj h
        exact v_iret (pc := 32) hX hR dX10_directionOf_32
    · have h := if_t h h4
      refine v_ldc (pc := 13) hX kc_10_66 dX10_directionOf_13 ?_
      obtain rfl := Option.some.inj h
      exact v_iret (pc := 15) hX hR dX10_directionOf_15
set_option maxHeartbeats 4000000 in
set_option maxRecDepth 100000 in
theorem c_L_spans {ad : Nat → Nat} {cs : List Nat} (hcs : ∀ k, 0 ≤ k → k < 95 → k ∈ cs) (M : Mm) (q : Int32 × Mm) (h : fL_spans M = some q) : CT ad cs yL_spans cL_spans 8 (some .boolean) 4 94 [.ref (ad 0)] M (some (.int q.1)) q.2 := by
  refine CT.of RL (by decide +kernel) rfl (Nat.le_of_ble_eq_true rfl) (fun X hX hR => ?_)
  unfold fL_spans at h
  show VV X 8 ad cs M 0 [(0, .ref (ad 0))] []
  refine v_iconst (pc := 0) hX dL_spans_0 ic_0 ?_
  refine v_istore_n (pc := 1) [(1, .int 0), (0, .ref (ad 0))] hX dL_spans_1 (by decide) rfl ?_
  refine v_aload_n (pc := 2) 1 hX dL_spans_2 rfl ?_
  refine v_iconst (pc := 3) hX dL_spans_3 ic_0 ?_
  obtain ⟨x2, h1, h⟩ := b1_e h
  refine v_callV (pc := 4) [.int 0] (some (.int x2)) M hX cv_L_16 (c_X10_count (sub_cs hcs (Nat.le_of_ble_eq_true rfl) (Nat.le_of_ble_eq_true rfl)) M 0 x2 h1) (hcs 0 (Nat.le_of_ble_eq_true rfl) (Nat.le_of_ble_eq_true rfl)) sh_0 rfl rfl rfl ⟨Nat.le_of_ble_eq_true rfl, Nat.le_of_ble_eq_true rfl⟩ (Nat.le_of_ble_eq_true rfl) dL_spans_4 ?_
  show VV X 8 ad cs M 7 [(1, .int 0), (0, .ref (ad 0))] [.int x2]
  refine v_istore_n (pc := 7) [(2, .int x2), (1, .int 0), (0, .ref (ad 0))] hX dL_spans_7 (by decide) rfl ?_
  refine v_bipush (pc := 8) hX dL_spans_8 bp_m3 ?_
  refine v_istore_n (pc := 10) [(3, .int (-3)), (2, .int x2), (1, .int 0), (0, .ref (ad 0))] hX dL_spans_10 (by decide) rfl ?_
  have L72 := v_itr (fL_spans_L11 M x2) (fun z => VV X 8 ad cs M 11 [(0, .ref (ad 0)), (1, .int z.1), (2, .int x2), (3, .int z.2)] []) (fun z => VV X 8 ad cs M 191 [(0, .ref (ad 0)), (1, .int z), (2, .int x2)] []) (by
    rintro ⟨x3, x4⟩ q h hK
    unfold fL_spans_L11 at h
    have h := u2_b h
    show VV X 8 ad cs M 11 [(0, .ref (ad 0)), (1, .int x3), (2, .int x2), (3, .int x4)] []
    refine v_iload_n (pc := 11) 3 hX dL_spans_11 rfl ?_
    refine v_iconst (pc := 12) hX dL_spans_12 ic_3 ?_
    refine v_icmp_gt (pc := 13) (tgt := 191) hX dL_spans_13 (by decide) (fun h5 => ?_) (fun h5 => ?_)
    · have h := if_t h h5
      obtain rfl := Option.some.inj h
      exact v_sub [0, 1, 2] rfl hK
    · have h := if_f h h5
      refine v_iload_n (pc := 16) 2 hX dL_spans_16 rfl ?_
      refine v_iconst (pc := 17) hX dL_spans_17 ic_1 ?_
      obtain ⟨k6, ek6, h⟩ := bd_e h
      have K7 : ∀ (x8 : Int32), k6 x8 = some q → VV X 8 ad cs M 27 [(0, .ref (ad 0)), (1, .int x3), (2, .int x2), (3, .int x4)] [.int x8] := by
        intro x8 h
        subst ek6
        refine v_istore (pc := 27) [(4, .int x8), (0, .ref (ad 0)), (1, .int x3), (2, .int x2), (3, .int x4)] hX dL_spans_27 (by decide) rfl ?_
        have L67 := v_itr (fL_spans_L29 M x4 x2) (fun z => VV X 8 ad cs M 29 [(0, .ref (ad 0)), (1, .int z.1), (2, .int x2), (3, .int x4), (4, .int z.2)] []) (fun z => VV X 8 ad cs M 185 [(0, .ref (ad 0)), (1, .int z), (2, .int x2), (3, .int x4)] []) (by
          rintro ⟨x9, x10⟩ q h hK
          unfold fL_spans_L29 at h
          have h := u2_b h
          show VV X 8 ad cs M 29 [(0, .ref (ad 0)), (1, .int x9), (2, .int x2), (3, .int x4), (4, .int x10)] []
          refine v_iload (pc := 29) 4 hX dL_spans_29 rfl ?_
          refine v_iload_n (pc := 31) 2 hX dL_spans_31 rfl ?_
          refine v_iconst (pc := 32) hX dL_spans_32 ic_1 ?_
          obtain ⟨k11, ek11, h⟩ := bd_e h
          have K12 : ∀ (x13 : Int32), k11 x13 = some q → VV X 8 ad cs M 41 [(0, .ref (ad 0)), (1, .int x9), (2, .int x2), (3, .int x4), (4, .int x10)] [.int x13, .int x10] := by
            intro x13 h
            subst ek11
            refine v_icmp_gt (pc := 41) (tgt := 185) hX dL_spans_41 (by decide) (fun h14 => ?_) (fun h14 => ?_)
            · have h := if_t h h14
              obtain rfl := Option.some.inj h
              exact v_sub [0, 1, 2, 3] rfl hK
            · have h := if_f h h14
              refine v_iload_n (pc := 44) 2 hX dL_spans_44 rfl ?_
              refine v_iconst (pc := 45) hX dL_spans_45 ic_2 ?_
              obtain ⟨k15, ek15, h⟩ := bd_e h
              have K16 : ∀ (x17 : Int32), k15 x17 = some q → VV X 8 ad cs M 55 [(0, .ref (ad 0)), (1, .int x9), (2, .int x2), (3, .int x4), (4, .int x10)] [.int x17] := by
                intro x17 h
                subst ek15
                refine v_istore (pc := 55) [(5, .int x17), (0, .ref (ad 0)), (1, .int x9), (2, .int x2), (3, .int x4), (4, .int x10)] hX dL_spans_55 (by decide) rfl ?_
                have L61 := v_itr (fL_spans_L57 M x4 x10 x2) (fun z => VV X 8 ad cs M 57 [(0, .ref (ad 0)), (1, .int z.1), (2, .int x2), (3, .int x4), (4, .int x10), (5, .int z.2)] []) (fun z => VV X 8 ad cs M 179 [(0, .ref (ad 0)), (1, .int z), (2, .int x2), (3, .int x4), (4, .int x10)] []) (by
                  rintro ⟨x18, x19⟩ q h hK
                  unfold fL_spans_L57 at h
                  have h := u2_b h
                  show VV X 8 ad cs M 57 [(0, .ref (ad 0)), (1, .int x18), (2, .int x2), (3, .int x4), (4, .int x10), (5, .int x19)] []
                  refine v_iload (pc := 57) 5 hX dL_spans_57 rfl ?_
                  refine v_iload_n (pc := 59) 2 hX dL_spans_59 rfl ?_
                  refine v_iconst (pc := 60) hX dL_spans_60 ic_2 ?_
                  obtain ⟨k20, ek20, h⟩ := bd_e h
                  have K21 : ∀ (x22 : Int32), k20 x22 = some q → VV X 8 ad cs M 69 [(0, .ref (ad 0)), (1, .int x18), (2, .int x2), (3, .int x4), (4, .int x10), (5, .int x19)] [.int x22, .int x19] := by
                    intro x22 h
                    subst ek20
                    refine v_icmp_gt (pc := 69) (tgt := 179) hX dL_spans_69 (by decide) (fun h23 => ?_) (fun h23 => ?_)
                    · have h := if_t h h23
                      obtain rfl := Option.some.inj h
                      exact v_sub [0, 1, 2, 3, 4] rfl hK
                    · have h := if_f h h23
                      refine v_iload_n (pc := 72) 3 hX dL_spans_72 rfl ?_
                      obtain ⟨k24, ek24, h⟩ := bd_e h
                      have K25 : ∀ (x26 : Int32), k24 x26 = some q → VV X 8 ad cs M 91 [(0, .ref (ad 0)), (1, .int x18), (2, .int x2), (3, .int x4), (4, .int x10), (5, .int x19)] [.int x26] := by
                        intro x26 h
                        subst ek24
                        refine v_istore (pc := 91) [(6, .int x26), (0, .ref (ad 0)), (1, .int x18), (2, .int x2), (3, .int x4), (4, .int x10), (5, .int x19)] hX dL_spans_91 (by decide) rfl ?_
                        refine v_iconst (pc := 93) hX dL_spans_93 ic_0 ?_
                        refine v_istore (pc := 94) [(7, .int 0), (6, .int x26), (0, .ref (ad 0)), (1, .int x18), (2, .int x2), (3, .int x4), (4, .int x10), (5, .int x19)] hX dL_spans_94 (by decide) rfl ?_
                        have L44 := v_itr (fL_spans_L96 M x4 x10 x19) (fun z => VV X 8 ad cs M 96 [(0, .ref (ad 0)), (1, .int x18), (2, .int x2), (3, .int x4), (4, .int x10), (5, .int x19), (6, .int z.1), (7, .int z.2)] []) (fun z => VV X 8 ad cs M 158 [(0, .ref (ad 0)), (1, .int x18), (2, .int x2), (3, .int x4), (4, .int x10), (5, .int x19), (6, .int z)] []) (by
                          rintro ⟨x27, x28⟩ q h hK
                          unfold fL_spans_L96 at h
                          have h := u2_b h
                          show VV X 8 ad cs M 96 [(0, .ref (ad 0)), (1, .int x18), (2, .int x2), (3, .int x4), (4, .int x10), (5, .int x19), (6, .int x27), (7, .int x28)] []
                          refine v_iload (pc := 96) 7 hX dL_spans_96 rfl ?_
                          refine v_aload_n (pc := 98) 0 hX dL_spans_98 rfl ?_
                          refine v_iconst (pc := 99) hX dL_spans_99 ic_2 ?_
                          obtain ⟨x30, h29, h⟩ := b1_e h
                          refine v_callV (pc := 100) [.int 2] (some (.int x30)) M hX cv_L_16 (c_X10_count (sub_cs hcs (Nat.le_of_ble_eq_true rfl) (Nat.le_of_ble_eq_true rfl)) M 2 x30 h29) (hcs 0 (Nat.le_of_ble_eq_true rfl) (Nat.le_of_ble_eq_true rfl)) sh_0 rfl rfl rfl ⟨Nat.le_of_ble_eq_true rfl, Nat.le_of_ble_eq_true rfl⟩ (Nat.le_of_ble_eq_true rfl) dL_spans_100 ?_
                          show VV X 8 ad cs M 103 [(0, .ref (ad 0)), (1, .int x18), (2, .int x2), (3, .int x4), (4, .int x10), (5, .int x19), (6, .int x27), (7, .int x28)] [.int x30, .int x28]
                          refine v_icmp_ge (pc := 103) (tgt := 158) hX dL_spans_103 (by decide) (fun h31 => ?_) (fun h31 => ?_)
                          · have h := if_t h h31
                            obtain rfl := Option.some.inj h
                            exact v_sub [0, 1, 2, 3, 4, 5, 6] rfl hK
                          · have h := if_f h h31
                            refine v_iload (pc := 106) 6 hX dL_spans_106 rfl ?_
                            refine v_if_ne (pc := 108) (tgt := 158) hX dL_spans_108 (by decide) (fun h32 => ?_) (fun h32 => ?_)
                            · have h := if_f h h32
                              obtain rfl := Option.some.inj h
                              exact v_sub [0, 1, 2, 3, 4, 5, 6] rfl hK
                            · have h := if_t h h32
                              refine v_iload_n (pc := 111) 3 hX dL_spans_111 rfl ?_
                              refine v_aload_n (pc := 112) 0 hX dL_spans_112 rfl ?_
                              refine v_iload (pc := 113) 7 hX dL_spans_113 rfl ?_
                              refine v_iconst (pc := 115) hX dL_spans_115 ic_0 ?_
                              obtain ⟨x34, h33, h⟩ := b1_e h
                              refine v_callV (pc := 116) [.int x28, .int 0] (some (.int x34)) M hX cv_L_58 (c_X10_directionOf (sub_cs hcs (Nat.le_of_ble_eq_true rfl) (Nat.le_of_ble_eq_true rfl)) M x28 0 x34 h33) (hcs 0 (Nat.le_of_ble_eq_true rfl) (Nat.le_of_ble_eq_true rfl)) sh_0 rfl rfl rfl ⟨Nat.le_of_ble_eq_true rfl, Nat.le_of_ble_eq_true rfl⟩ (Nat.le_of_ble_eq_true rfl) dL_spans_116 ?_
                              show VV X 8 ad cs M 119 [(0, .ref (ad 0)), (1, .int x18), (2, .int x2), (3, .int x4), (4, .int x10), (5, .int x19), (6, .int x27), (7, .int x28)] [.int x34, .int x4]
                              refine v_imul (pc := 119) hX dL_spans_119 ?_
                              refine v_iload (pc := 120) 4 hX dL_spans_120 rfl ?_
                              refine v_aload_n (pc := 122) 0 hX dL_spans_122 rfl ?_
                              refine v_iload (pc := 123) 7 hX dL_spans_123 rfl ?_
                              refine v_iconst (pc := 125) hX dL_spans_125 ic_1 ?_
                              obtain ⟨x36, h35, h⟩ := b1_e h
                              refine v_callV (pc := 126) [.int x28, .int 1] (some (.int x36)) M hX cv_L_58 (c_X10_directionOf (sub_cs hcs (Nat.le_of_ble_eq_true rfl) (Nat.le_of_ble_eq_true rfl)) M x28 1 x36 h35) (hcs 0 (Nat.le_of_ble_eq_true rfl) (Nat.le_of_ble_eq_true rfl)) sh_0 rfl rfl rfl ⟨Nat.le_of_ble_eq_true rfl, Nat.le_of_ble_eq_true rfl⟩ (Nat.le_of_ble_eq_true rfl) dL_spans_126 ?_
                              show VV X 8 ad cs M 129 [(0, .ref (ad 0)), (1, .int x18), (2, .int x2), (3, .int x4), (4, .int x10), (5, .int x19), (6, .int x27), (7, .int x28)] [.int x36, .int x10, .int (x4 * x34)]
                              refine v_imul (pc := 129) hX dL_spans_129 ?_
                              refine v_iadd (pc := 130) hX dL_spans_130 ?_
                              refine v_iload (pc := 131) 5 hX dL_spans_131 rfl ?_
                              refine v_aload_n (pc := 133) 0 hX dL_spans_133 rfl ?_
                              refine v_iload (pc := 134) 7 hX dL_spans_134 rfl ?_
                              refine v_iconst (pc := 136) hX dL_spans_136 ic_2 ?_
                              obtain ⟨x38, h37, h⟩ := b1_e h
                              refine v_callV (pc := 137) [.int x28, .int 2] (some (.int x38)) M hX cv_L_58 (c_X10_directionOf (sub_cs hcs (Nat.le_of_ble_eq_true rfl) (Nat.le_of_ble_eq_true rfl)) M x28 2 x38 h37) (hcs 0 (Nat.le_of_ble_eq_true rfl) (Nat.le_of_ble_eq_true rfl)) sh_0 rfl rfl rfl ⟨Nat.le_of_ble_eq_true rfl, Nat.le_of_ble_eq_true rfl⟩ (Nat.le_of_ble_eq_true rfl) dL_spans_137 ?_
                              show VV X 8 ad cs M 140 [(0, .ref (ad 0)), (1, .int x18), (2, .int x2), (3, .int x4), (4, .int x10), (5, .int x19), (6, .int x27), (7, .int x28)] [.int x38, .int x19, .int ((x4 * x34) + (x10 * x36))]
                              refine v_imul (pc := 140) hX dL_spans_140 ?_
                              refine v_iadd (pc := 141) hX dL_spans_141 ?_
                              obtain ⟨k39, ek39, h⟩ := bd_e h
                              have K40 : ∀ (x41 : Int32), k39 x41 = some q → VV X 8 ad cs M 150 [(0, .ref (ad 0)), (1, .int x18), (2, .int x2), (3, .int x4), (4, .int x10), (5, .int x19), (7, .int x28)] [.int x41] := by
                                intro x41 h
                                subst ek39
                                refine v_istore (pc := 150) [(6, .int x41), (0, .ref (ad 0)), (1, .int x18), (2, .int x2), (3, .int x4), (4, .int x10), (5, .int x19), (7, .int x28)] hX dL_spans_150 (by decide) rfl ?_
                                obtain ⟨x42, ex42, h⟩ := bd_e h
                                refine v_iinc (v := x42) (pc := 152) 7 [(7, .int x42), (6, .int x41), (0, .ref (ad 0)), (1, .int x18), (2, .int x2), (3, .int x4), (4, .int x10), (5, .int x19)] hX dL_spans_152 rfl (ex42.trans (by rw [ic_1])) (by decide) rfl ?_
                                refine v_goto (pc := 155) (tgt := 96) hX dL_spans_155 (by decide) ?_
                                obtain rfl := Option.some.inj h
                                exact v_sub [2, 3, 4, 5, 6, 7, 1, 0] rfl hK
                              refine v_if_le (pc := 142) (tgt := 149) hX dL_spans_142 (by decide) (fun h43 => ?_) (fun h43 => ?_)
                              · have h := if_t h h43
                                refine v_iconst (pc := 149) hX dL_spans_149 ic_0 ?_
                                exact v_sub [0, 1, 2, 3, 4, 5, 7] rfl (K40 0 h)
                              · have h := if_f h h43
                                refine v_iconst (pc := 145) hX dL_spans_145 ic_1 ?_
                                refine v_goto (pc := 146) (tgt := 150) hX dL_spans_146 (by decide) ?_
                                exact v_sub [0, 1, 2, 3, 4, 5, 7] rfl (K40 1 h)
                        )
                        obtain ⟨x45, h54, h⟩ := b1_e h
                        refine v_sub [2, 3, 4, 5, 6, 7, 1, 0] rfl ?_
                        refine L44 1000 _ _ h54 ?_
                        show VV X 8 ad cs M 158 [(0, .ref (ad 0)), (1, .int x18), (2, .int x2), (3, .int x4), (4, .int x10), (5, .int x19), (6, .int x45)] []
                        refine v_iload_n (pc := 158) 1 hX dL_spans_158 rfl ?_
                        obtain ⟨k46, ek46, h⟩ := bd_e h
                        have K47 : ∀ (x48 : Int32), k46 x48 = some q → VV X 8 ad cs M 172 [(0, .ref (ad 0)), (2, .int x2), (3, .int x4), (4, .int x10), (5, .int x19)] [.int x48] := by
                          intro x48 h
                          subst ek46
                          refine v_istore_n (pc := 172) [(1, .int x48), (0, .ref (ad 0)), (2, .int x2), (3, .int x4), (4, .int x10), (5, .int x19)] hX dL_spans_172 (by decide) rfl ?_
                          obtain ⟨x49, ex49, h⟩ := bd_e h
                          refine v_iinc (v := x49) (pc := 173) 5 [(5, .int x49), (1, .int x48), (0, .ref (ad 0)), (2, .int x2), (3, .int x4), (4, .int x10)] hX dL_spans_173 rfl (ex49.trans (by rw [ic_1])) (by decide) rfl ?_
                          refine v_goto (pc := 176) (tgt := 57) hX dL_spans_176 (by decide) ?_
                          obtain rfl := Option.some.inj h
                          exact v_sub [2, 1, 3, 4, 5, 0] rfl hK
                        obtain ⟨k50, ek50, h⟩ := bd_e h
                        have K51 : ∀ (_ : Unit), k50 () = some q → VV X 8 ad cs M 167 [(0, .ref (ad 0)), (2, .int x2), (3, .int x4), (4, .int x10), (5, .int x19)] [] := by
                          intro _ h
                          subst ek50
                          refine v_iconst (pc := 167) hX dL_spans_167 ic_1 ?_
                          refine v_goto (pc := 168) (tgt := 172) hX dL_spans_168 (by decide) ?_
                          exact v_sub [0, 1, 2, 3, 4] rfl (K47 1 h)
                        refine v_if_ne (pc := 159) (tgt := 167) hX dL_spans_159 (by decide) (fun h52 => ?_) (fun h52 => ?_)
                        · have h := if_f h h52
                          exact v_sub [0, 2, 3, 4, 5] rfl (K51 () h)
                        · have h := if_t h h52
                          refine v_iload (pc := 162) 6 hX dL_spans_162 rfl ?_
                          refine v_if_ne (pc := 164) (tgt := 171) hX dL_spans_164 (by decide) (fun h53 => ?_) (fun h53 => ?_)
                          · have h := if_f h h53
                            refine v_iconst (pc := 171) hX dL_spans_171 ic_0 ?_
                            exact v_sub [0, 2, 3, 4, 5] rfl (K47 0 h)
                          · have h := if_t h h53
                            exact v_sub [0, 2, 3, 4, 5] rfl (K51 () h)
                      obtain ⟨k55, ek55, h⟩ := bd_e h
                      have K56 : ∀ (_ : Unit), k55 () = some q → VV X 8 ad cs M 90 [(0, .ref (ad 0)), (1, .int x18), (2, .int x2), (3, .int x4), (4, .int x10), (5, .int x19)] [] := by
                        intro _ h
                        subst ek55
                        refine v_iconst (pc := 90) hX dL_spans_90 ic_0 ?_
                        exact v_sub [0, 1, 2, 3, 4, 5] rfl (K25 0 h)
                      refine v_if_ne (pc := 73) (tgt := 90) hX dL_spans_73 (by decide) (fun h57 => ?_) (fun h57 => ?_)
                      · have h := if_f h h57
                        exact v_sub [0, 1, 2, 3, 4, 5] rfl (K56 () h)
                      · have h := if_t h h57
                        refine v_iload (pc := 76) 4 hX dL_spans_76 rfl ?_
                        refine v_if_ne (pc := 78) (tgt := 90) hX dL_spans_78 (by decide) (fun h58 => ?_) (fun h58 => ?_)
                        · have h := if_f h h58
                          exact v_sub [0, 1, 2, 3, 4, 5] rfl (K56 () h)
                        · have h := if_t h h58
                          refine v_iload (pc := 81) 5 hX dL_spans_81 rfl ?_
                          refine v_if_ne (pc := 83) (tgt := 90) hX dL_spans_83 (by decide) (fun h59 => ?_) (fun h59 => ?_)
                          · have h := if_f h h59
                            exact v_sub [0, 1, 2, 3, 4, 5] rfl (K56 () h)
                          · have h := if_t h h59
                            refine v_iconst (pc := 86) hX dL_spans_86 ic_1 ?_
                            refine v_goto (pc := 87) (tgt := 91) hX dL_spans_87 (by decide) ?_
                            exact v_sub [0, 1, 2, 3, 4, 5] rfl (K25 1 h)
                  refine v_icmp_le (pc := 61) (tgt := 68) hX dL_spans_61 (by decide) (fun h60 => ?_) (fun h60 => ?_)
                  · have h := if_t h h60
                    refine v_iconst (pc := 68) hX dL_spans_68 ic_0 ?_
                    exact v_sub [0, 1, 2, 3, 4, 5] rfl (K21 0 h)
                  · have h := if_f h h60
                    refine v_iconst (pc := 64) hX dL_spans_64 ic_3 ?_
                    refine v_goto (pc := 65) (tgt := 69) hX dL_spans_65 (by decide) ?_
                    exact v_sub [0, 1, 2, 3, 4, 5] rfl (K21 3 h)
                )
                obtain ⟨x62, h64, h⟩ := b1_e h
                refine v_sub [1, 2, 3, 4, 5, 0] rfl ?_
                refine L61 1000 _ _ h64 ?_
                show VV X 8 ad cs M 179 [(0, .ref (ad 0)), (1, .int x62), (2, .int x2), (3, .int x4), (4, .int x10)] []
                obtain ⟨x63, ex63, h⟩ := bd_e h
                refine v_iinc (v := x63) (pc := 179) 4 [(4, .int x63), (0, .ref (ad 0)), (1, .int x62), (2, .int x2), (3, .int x4)] hX dL_spans_179 rfl (ex63.trans (by rw [ic_1])) (by decide) rfl ?_
                refine v_goto (pc := 182) (tgt := 29) hX dL_spans_182 (by decide) ?_
                obtain rfl := Option.some.inj h
                exact v_sub [1, 2, 3, 4, 0] rfl hK
              refine v_icmp_le (pc := 46) (tgt := 54) hX dL_spans_46 (by decide) (fun h65 => ?_) (fun h65 => ?_)
              · have h := if_t h h65
                refine v_iconst (pc := 54) hX dL_spans_54 ic_0 ?_
                exact v_sub [0, 1, 2, 3, 4] rfl (K16 0 h)
              · have h := if_f h h65
                refine v_bipush (pc := 49) hX dL_spans_49 bp_m3 ?_
                refine v_goto (pc := 51) (tgt := 55) hX dL_spans_51 (by decide) ?_
                exact v_sub [0, 1, 2, 3, 4] rfl (K16 (-3) h)
          refine v_icmp_le (pc := 33) (tgt := 40) hX dL_spans_33 (by decide) (fun h66 => ?_) (fun h66 => ?_)
          · have h := if_t h h66
            refine v_iconst (pc := 40) hX dL_spans_40 ic_0 ?_
            exact v_sub [0, 1, 2, 3, 4] rfl (K12 0 h)
          · have h := if_f h h66
            refine v_iconst (pc := 36) hX dL_spans_36 ic_3 ?_
            refine v_goto (pc := 37) (tgt := 41) hX dL_spans_37 (by decide) ?_
            exact v_sub [0, 1, 2, 3, 4] rfl (K12 3 h)
        )
        obtain ⟨x68, h70, h⟩ := b1_e h
        refine v_sub [1, 2, 3, 4, 0] rfl ?_
        refine L67 1000 _ _ h70 ?_
        show VV X 8 ad cs M 185 [(0, .ref (ad 0)), (1, .int x68), (2, .int x2), (3, .int x4)] []
        obtain ⟨x69, ex69, h⟩ := bd_e h
        refine v_iinc (v := x69) (pc := 185) 3 [(3, .int x69), (0, .ref (ad 0)), (1, .int x68), (2, .int x2)] hX dL_spans_185 rfl (ex69.trans (by rw [ic_1])) (by decide) rfl ?_
        refine v_goto (pc := 188) (tgt := 11) hX dL_spans_188 (by decide) ?_
        obtain rfl := Option.some.inj h
        exact v_sub [1, 2, 3, 0] rfl hK
      refine v_icmp_le (pc := 18) (tgt := 26) hX dL_spans_18 (by decide) (fun h71 => ?_) (fun h71 => ?_)
      · have h := if_t h h71
        refine v_iconst (pc := 26) hX dL_spans_26 ic_0 ?_
        exact v_sub [0, 1, 2, 3] rfl (K7 0 h)
      · have h := if_f h h71
        refine v_bipush (pc := 21) hX dL_spans_21 bp_m3 ?_
        refine v_goto (pc := 23) (tgt := 27) hX dL_spans_23 (by decide) ?_
        exact v_sub [0, 1, 2, 3] rfl (K7 (-3) h)
  )
  obtain ⟨x73, h84, h⟩ := b1_e h
  refine v_sub [3, 2, 1, 0] rfl ?_
  refine L72 1000 _ _ h84 ?_
  show VV X 8 ad cs M 191 [(0, .ref (ad 0)), (1, .int x73), (2, .int x2)] []
  refine v_iload_n (pc := 191) 1 hX dL_spans_191 rfl ?_
  refine v_if_eq (pc := 192) (tgt := 210) hX dL_spans_192 (by decide) (fun h74 => ?_) (fun h74 => ?_)
  · have h := if_t h h74
    refine v_iload_n (pc := 210) 2 hX dL_spans_210 rfl ?_
    refine v_iconst (pc := 211) hX dL_spans_211 ic_3 ?_
    refine v_icmp_eq (pc := 212) (tgt := 223) hX dL_spans_212 (by decide) (fun h75 => ?_) (fun h75 => ?_)
    · have h := if_t h h75
      refine v_iconst (pc := 223) hX dL_spans_223 ic_1 ?_
      refine v_goto (pc := 224) (tgt := 228) hX dL_spans_224 (by decide) ?_
      obtain rfl := Option.some.inj h
      exact v_zret (pc := 228) hX hR (Or.inr rfl) dL_spans_228
    · have h := if_f h h75
      refine v_aload_n (pc := 215) 0 hX dL_spans_215 rfl ?_
      obtain ⟨x77, M78, h76, h⟩ := b2_e h
      refine v_callV (pc := 216) [] (some (.int x77)) M78 hX cv_L_19 (c_X10_spans (sub_cs hcs (Nat.le_of_ble_eq_true rfl) (Nat.le_of_ble_eq_true rfl)) M (x77, M78) h76) (hcs 0 (Nat.le_of_ble_eq_true rfl) (Nat.le_of_ble_eq_true rfl)) sh_0 rfl rfl rfl ⟨Nat.le_of_ble_eq_true rfl, Nat.le_of_ble_eq_true rfl⟩ (Nat.le_of_ble_eq_true rfl) dL_spans_216 ?_
      show VV X 8 ad cs M78 219 [(0, .ref (ad 0)), (1, .int x73), (2, .int x2)] [.int x77]
      refine v_iconst (pc := 219) hX dL_spans_219 ic_1 ?_
      refine v_icmp_ne (pc := 220) (tgt := 227) hX dL_spans_220 (by decide) (fun h79 => ?_) (fun h79 => ?_)
      · have h := if_f h h79
        refine v_iconst (pc := 227) hX dL_spans_227 ic_0 ?_
        obtain rfl := Option.some.inj h
        exact v_zret (pc := 228) hX hR (Or.inl rfl) dL_spans_228
      · have h := if_t h h79
        refine v_iconst (pc := 223) hX dL_spans_223 ic_1 ?_
        refine v_goto (pc := 224) (tgt := 228) hX dL_spans_224 (by decide) ?_
        obtain rfl := Option.some.inj h
        exact v_zret (pc := 228) hX hR (Or.inr rfl) dL_spans_228
  · have h := if_f h h74
    refine v_aload_n (pc := 195) 0 hX dL_spans_195 rfl ?_
    obtain ⟨x81, M82, h80, h⟩ := b2_e h
    refine v_callV (pc := 196) [] (some (.int x81)) M82 hX cv_L_19 (c_X10_spans (sub_cs hcs (Nat.le_of_ble_eq_true rfl) (Nat.le_of_ble_eq_true rfl)) M (x81, M82) h80) (hcs 0 (Nat.le_of_ble_eq_true rfl) (Nat.le_of_ble_eq_true rfl)) sh_0 rfl rfl rfl ⟨Nat.le_of_ble_eq_true rfl, Nat.le_of_ble_eq_true rfl⟩ (Nat.le_of_ble_eq_true rfl) dL_spans_196 ?_
    show VV X 8 ad cs M82 199 [(0, .ref (ad 0)), (1, .int x73), (2, .int x2)] [.int x81]
    refine v_if_ne (pc := 199) (tgt := 206) hX dL_spans_199 (by decide) (fun h83 => ?_) (fun h83 => ?_)
    · have h := if_f h h83
      refine v_iconst (pc := 206) hX dL_spans_206 ic_0 ?_
      refine v_goto (pc := 207) (tgt := 228) hX dL_spans_207 (by decide) ?_
      obtain rfl := Option.some.inj h
      exact v_zret (pc := 228) hX hR (Or.inl rfl) dL_spans_228
    · have h := if_t h h83
      refine v_iconst (pc := 202) hX dL_spans_202 ic_1 ?_
      refine v_goto (pc := 203) (tgt := 228) hX dL_spans_203 (by decide) ?_
      obtain rfl := Option.some.inj h
      exact v_zret (pc := 228) hX hR (Or.inr rfl) dL_spans_228
