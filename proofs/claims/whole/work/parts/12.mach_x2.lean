set_option maxHeartbeats 4000000 in
set_option maxRecDepth 100000 in
theorem c_X10_count {ad : Nat → Nat} {cs : List Nat} (hcs : ∀ k, 0 ≤ k → k < 81 → k ∈ cs) (M : Mm) (w1 : Int32) (q : Int32) (h : fX10_count M w1 = some q) : CT ad cs yX10_count cX10_count 2 (some .int) 2 43 [.ref (ad 0), .int w1] M (some (.int q)) M := by
  refine CT.of RX10 (by decide +kernel) rfl (Nat.le_of_ble_eq_true rfl) (fun X hX hR => ?_)
  unfold fX10_count at h
  show VV X 2 ad cs M 0 [(0, .ref (ad 0)), (1, .int w1)] []
  refine v_iload_n (pc := 0) 1 hX dX10_count_0 rfl ?_
  by_cases h1 : w1 = 0
  · have h := if_t h h1
    refine v_tableIn (pc := 1) (tgt := 48) (off := 47) hX dX10_count_1 (by rw [h1]; decide) (by rw [h1]; decide) (by rw [h1]; decide) (by decide) ?_
    refine v_aload_n (pc := 48) 0 hX dX10_count_48 rfl ?_
    refine v_getR (pc := 49) (t := 1) hX (hcs 0 (Nat.le_of_ble_eq_true rfl) (Nat.le_of_ble_eq_true rfl)) sh_0 fl_10_10 rfl dX10_count_49 ?_
    refine v_getI (pc := 52) hX (hcs 1 (Nat.le_of_ble_eq_true rfl) (Nat.le_of_ble_eq_true rfl)) sh_1 fl_10_67 rfl dX10_count_52 ?_
    obtain rfl := Option.some.inj h
    exact v_iret (pc := 55) hX hR dX10_count_55
  · have h := if_f h h1
    by_cases h2 : w1 = 1
    · have h := if_t h h2
      refine v_tableIn (pc := 1) (tgt := 56) (off := 55) hX dX10_count_1 (by rw [h2]; decide) (by rw [h2]; decide) (by rw [h2]; decide) (by decide) ?_
      refine v_aload_n (pc := 56) 0 hX dX10_count_56 rfl ?_
      refine v_getR (pc := 57) (t := 1) hX (hcs 0 (Nat.le_of_ble_eq_true rfl) (Nat.le_of_ble_eq_true rfl)) sh_0 fl_10_10 rfl dX10_count_57 ?_
      refine v_getR (pc := 60) (t := 2) hX (hcs 1 (Nat.le_of_ble_eq_true rfl) (Nat.le_of_ble_eq_true rfl)) sh_1 fl_10_79 rfl dX10_count_60 ?_
      refine v_getI (pc := 63) hX (hcs 2 (Nat.le_of_ble_eq_true rfl) (Nat.le_of_ble_eq_true rfl)) sh_2 fl_10_83 rfl dX10_count_63 ?_
      obtain rfl := Option.some.inj h
      exact v_iret (pc := 66) hX hR dX10_count_66
    · have h := if_f h h2
      by_cases h3 : w1 = 2
      · have h := if_t h h3
        refine v_tableIn (pc := 1) (tgt := 67) (off := 66) hX dX10_count_1 (by rw [h3]; decide) (by rw [h3]; decide) (by rw [h3]; decide) (by decide) ?_
        refine v_aload_n (pc := 67) 0 hX dX10_count_67 rfl ?_
        refine v_getR (pc := 68) (t := 1) hX (hcs 0 (Nat.le_of_ble_eq_true rfl) (Nat.le_of_ble_eq_true rfl)) sh_0 fl_10_10 rfl dX10_count_68 ?_
        refine v_getR (pc := 71) (t := 8) hX (hcs 1 (Nat.le_of_ble_eq_true rfl) (Nat.le_of_ble_eq_true rfl)) sh_1 fl_10_125 rfl dX10_count_71 ?_
        refine v_getI (pc := 74) hX (hcs 8 (Nat.le_of_ble_eq_true rfl) (Nat.le_of_ble_eq_true rfl)) sh_8 fl_10_134 rfl dX10_count_74 ?_
        obtain rfl := Option.some.inj h
        exact v_iret (pc := 77) hX hR dX10_count_77
      · have h := if_f h h3
        by_cases h4 : w1 = 3
        · have h := if_t h h4
          refine v_tableIn (pc := 1) (tgt := 78) (off := 77) hX dX10_count_1 (by rw [h4]; decide) (by rw [h4]; decide) (by rw [h4]; decide) (by decide) ?_
          refine v_aload_n (pc := 78) 0 hX dX10_count_78 rfl ?_
          refine v_getR (pc := 79) (t := 1) hX (hcs 0 (Nat.le_of_ble_eq_true rfl) (Nat.le_of_ble_eq_true rfl)) sh_0 fl_10_10 rfl dX10_count_79 ?_
          refine v_getI (pc := 82) hX (hcs 1 (Nat.le_of_ble_eq_true rfl) (Nat.le_of_ble_eq_true rfl)) sh_1 fl_10_154 rfl dX10_count_82 ?_
          obtain rfl := Option.some.inj h
          exact v_iret (pc := 85) hX hR dX10_count_85
        · have h := if_f h h4
          by_cases h5 : w1 = 4
          · have h := if_t h h5
            refine v_tableIn (pc := 1) (tgt := 86) (off := 85) hX dX10_count_1 (by rw [h5]; decide) (by rw [h5]; decide) (by rw [h5]; decide) (by decide) ?_
            refine v_aload_n (pc := 86) 0 hX dX10_count_86 rfl ?_
            refine v_getR (pc := 87) (t := 1) hX (hcs 0 (Nat.le_of_ble_eq_true rfl) (Nat.le_of_ble_eq_true rfl)) sh_0 fl_10_10 rfl dX10_count_87 ?_
            refine v_getI (pc := 90) hX (hcs 1 (Nat.le_of_ble_eq_true rfl) (Nat.le_of_ble_eq_true rfl)) sh_1 fl_10_157 rfl dX10_count_90 ?_
            obtain rfl := Option.some.inj h
            exact v_iret (pc := 93) hX hR dX10_count_93
          · have h := if_f h h5
            by_cases h6 : w1 = 5
            · have h := if_t h h6
              refine v_tableIn (pc := 1) (tgt := 94) (off := 93) hX dX10_count_1 (by rw [h6]; decide) (by rw [h6]; decide) (by rw [h6]; decide) (by decide) ?_
              refine v_aload_n (pc := 94) 0 hX dX10_count_94 rfl ?_
              refine v_getR (pc := 95) (t := 14) hX (hcs 0 (Nat.le_of_ble_eq_true rfl) (Nat.le_of_ble_eq_true rfl)) sh_0 fl_10_23 rfl dX10_count_95 ?_
              refine v_getI (pc := 98) hX (hcs 14 (Nat.le_of_ble_eq_true rfl) (Nat.le_of_ble_eq_true rfl)) sh_14 fl_10_212 rfl dX10_count_98 ?_
              obtain rfl := Option.some.inj h
              exact v_iret (pc := 101) hX hR dX10_count_101
            · have h := if_f h h6
              by_cases h7 : w1 = 6
              · have h := if_t h h7
                refine v_tableIn (pc := 1) (tgt := 102) (off := 101) hX dX10_count_1 (by rw [h7]; decide) (by rw [h7]; decide) (by rw [h7]; decide) (by decide) ?_
                refine v_aload_n (pc := 102) 0 hX dX10_count_102 rfl ?_
                refine v_getR (pc := 103) (t := 80) hX (hcs 0 (Nat.le_of_ble_eq_true rfl) (Nat.le_of_ble_eq_true rfl)) sh_0 fl_10_37 rfl dX10_count_103 ?_
                refine v_getI (pc := 106) hX (hcs 80 (Nat.le_of_ble_eq_true rfl) (Nat.le_of_ble_eq_true rfl)) sh_80 fl_10_213 rfl dX10_count_106 ?_
                obtain rfl := Option.some.inj h
                exact v_iret (pc := 109) hX hR dX10_count_109
              · have h := if_f h h7
                by_cases h8 : w1 = 7
                · have h := if_t h h8
                  refine v_tableIn (pc := 1) (tgt := 110) (off := 109) hX dX10_count_1 (by rw [h8]; decide) (by rw [h8]; decide) (by rw [h8]; decide) (by decide) ?_
                  refine v_aload_n (pc := 110) 0 hX dX10_count_110 rfl ?_
                  refine v_getI (pc := 111) hX (hcs 0 (Nat.le_of_ble_eq_true rfl) (Nat.le_of_ble_eq_true rfl)) sh_0 fl_10_30 rfl dX10_count_111 ?_
                  obtain ⟨x10, h9, h⟩ := b1_e h
                  refine v_callS (pc := 114) [.int (M.1 0 3)] (some (.int x10)) M hX cv_10_121 (c_X10_oneIf M (M.1 0 3) x10 h9) rfl rfl ⟨Nat.le_of_ble_eq_true rfl, Nat.le_of_ble_eq_true rfl⟩ (Nat.le_of_ble_eq_true rfl) dX10_count_114 ?_
                  show VV X 2 ad cs M 117 [(0, .ref (ad 0)), (1, .int w1)] [.int x10]
                  obtain rfl := Option.some.inj h
                  exact v_iret (pc := 117) hX hR dX10_count_117
                · have h := if_f h h8
                  have sw1 : w1.toInt < 0 ∨ 7 < w1.toInt := by
                    have q0 := lv_neT h1 (a := 0) (by decide)
                    have q1 := lv_neT h2 (a := 1) (by decide)
                    have q2 := lv_neT h3 (a := 2) (by decide)
                    have q3 := lv_neT h4 (a := 3) (by decide)
                    have q4 := lv_neT h5 (a := 4) (by decide)
                    have q5 := lv_neT h6 (a := 5) (by decide)
                    have q6 := lv_neT h7 (a := 6) (by decide)
                    have q7 := lv_neT h8 (a := 7) (by decide)
                    omega
                  refine v_tableOut (pc := 1) (tgt := 118) hX dX10_count_1 sw1 (by decide) ?_
                  refine v_aload_n (pc := 118) 0 hX dX10_count_118 rfl ?_
                  refine v_iload_n (pc := 119) 1 hX dX10_count_119 rfl ?_
                  obtain ⟨x12, h11, h⟩ := b1_e h
                  refine v_callV (pc := 120) [.int w1] (some (.int x12)) M hX cv_10_216 (c_X10_boundOf (sub_cs hcs (Nat.le_of_ble_eq_true rfl) (Nat.le_of_ble_eq_true rfl)) M w1 x12 h11) (hcs 0 (Nat.le_of_ble_eq_true rfl) (Nat.le_of_ble_eq_true rfl)) sh_0 rfl rfl rfl ⟨Nat.le_of_ble_eq_true rfl, Nat.le_of_ble_eq_true rfl⟩ (Nat.le_of_ble_eq_true rfl) dX10_count_120 ?_
                  show VV X 2 ad cs M 123 [(0, .ref (ad 0)), (1, .int w1)] [.int x12]
                  obtain rfl := Option.some.inj h
                  exact v_iret (pc := 123) hX hR dX10_count_123
set_option maxHeartbeats 4000000 in
set_option maxRecDepth 100000 in
theorem c_X9_isBetter {ad : Nat → Nat} {cs : List Nat} (hcs : ∀ k, 86 ≤ k → k < 90 → k ∈ cs) (M : Mm) (w1 : Int32) (q : Int32) (h : fX9_isBetter M w1 = some q) : CT ad cs yX9_isBetter cX9_isBetter 2 (some .boolean) 0 0 [.ref (ad 86), .int w1] M (some (.int q)) M := by
  refine CT.of RX9 (by decide +kernel) rfl (Nat.le_of_ble_eq_true rfl) (fun X hX hR => ?_)
  unfold fX9_isBetter at h
  show VV X 2 ad cs M 0 [(0, .ref (ad 86)), (1, .int w1)] []
  refine v_aload_n (pc := 0) 0 hX dX9_isBetter_0 rfl ?_
  refine v_getR (pc := 1) (t := 89) hX (hcs 86 (Nat.le_of_ble_eq_true rfl) (Nat.le_of_ble_eq_true rfl)) sh_86 fl_9_19 rfl dX9_isBetter_1 ?_
  refine v_iload_n (pc := 4) 1 hX dX9_isBetter_4 rfl ?_
  obtain ⟨g1, h⟩ := gd_e h
  refine v_lald (pc := 5) hX (hcs 89 (Nat.le_of_ble_eq_true rfl) (Nat.le_of_ble_eq_true rfl)) sh_89 g1 rfl dX9_isBetter_5 ?_
  refine v_aload_n (pc := 6) 0 hX dX9_isBetter_6 rfl ?_
  refine v_getL (pc := 7) hX (hcs 86 (Nat.le_of_ble_eq_true rfl) (Nat.le_of_ble_eq_true rfl)) sh_86 fl_9_32 rfl dX9_isBetter_7 ?_
  refine v_lcmp (pc := 10) hX dX9_isBetter_10 ?_
  refine v_if_ge (pc := 11) (tgt := 18) hX dX9_isBetter_11 (by decide) (fun h2 => ?_) (fun h2 => ?_)
  · have h := if_t h h2
    refine v_iconst (pc := 18) hX dX9_isBetter_18 ic_0 ?_
    obtain rfl := Option.some.inj h
    exact v_zret (pc := 19) hX hR (Or.inl rfl) dX9_isBetter_19
  · have h := if_f h h2
    refine v_iconst (pc := 14) hX dX9_isBetter_14 ic_1 ?_
    refine v_goto (pc := 15) (tgt := 19) hX dX9_isBetter_15 (by decide) ?_
    obtain rfl := Option.some.inj h
    exact v_zret (pc := 19) hX hR (Or.inr rfl) dX9_isBetter_19
set_option maxHeartbeats 4000000 in
set_option maxRecDepth 100000 in
theorem c_X10_trialOf {ad : Nat → Nat} {cs : List Nat} (hcs : ∀ k, 0 ≤ k → k < 90 → k ∈ cs) (M : Mm) (w1 : Int32) (w2 : Int32) (q : Int32 × Mm) (h : fX10_trialOf M w1 w2 = some q) : CT ad cs yX10_trialOf cX10_trialOf 3 (some .int) 4 103 [.ref (ad 0), .int w1, .int w2] M (some (.int q.1)) q.2 := by
  refine CT.of RX10 (by decide +kernel) rfl (Nat.le_of_ble_eq_true rfl) (fun X hX hR => ?_)
  unfold fX10_trialOf at h
  show VV X 3 ad cs M 0 [(0, .ref (ad 0)), (1, .int w1), (2, .int w2)] []
  refine v_iload_n (pc := 0) 1 hX dX10_trialOf_0 rfl ?_
  refine v_if_lt (pc := 1) (tgt := 13) hX dX10_trialOf_1 (by decide) (fun h1 => ?_) (fun h1 => ?_)
  · have h := if_t h h1
    refine v_ldc (pc := 13) hX kc_10_66 dX10_trialOf_13 ?_
    obtain rfl := Option.some.inj h
    exact v_iret (pc := 15) hX hR dX10_trialOf_15
  · have h := if_f h h1
    refine v_iload_n (pc := 4) 2 hX dX10_trialOf_4 rfl ?_
    refine v_iconst (pc := 5) hX dX10_trialOf_5 ic_0 ?_
    refine v_iconst (pc := 6) hX dX10_trialOf_6 ic_1 ?_
    obtain ⟨x3, h2, h⟩ := b1_e h
    refine v_callS (pc := 7) [.int w2, .int 0, .int 1] (some (.int x3)) M hX cv_10_62 (c_X10_within M w2 0 1 x3 h2) rfl rfl ⟨Nat.le_of_ble_eq_true rfl, Nat.le_of_ble_eq_true rfl⟩ (Nat.le_of_ble_eq_true rfl) dX10_trialOf_7 ?_
    show VV X 3 ad cs M 10 [(0, .ref (ad 0)), (1, .int w1), (2, .int w2)] [.int x3]
    refine v_if_ne (pc := 10) (tgt := 16) hX dX10_trialOf_10 (by decide) (fun h4 => ?_) (fun h4 => ?_)
    · have h := if_f h h4
      refine v_aload_n (pc := 16) 0 hX dX10_trialOf_16 rfl ?_
      refine v_getR (pc := 17) (t := 86) hX (hcs 0 (Nat.le_of_ble_eq_true rfl) (Nat.le_of_ble_eq_true rfl)) sh_0 fl_10_44 rfl dX10_trialOf_17 ?_
      refine v_aload_n (pc := 20) 0 hX dX10_trialOf_20 rfl ?_
      refine v_getR (pc := 21) (t := 1) hX (hcs 0 (Nat.le_of_ble_eq_true rfl) (Nat.le_of_ble_eq_true rfl)) sh_0 fl_10_10 rfl dX10_trialOf_21 ?_
      refine v_aload_n (pc := 24) 0 hX dX10_trialOf_24 rfl ?_
      refine v_getR (pc := 25) (t := 1) hX (hcs 0 (Nat.le_of_ble_eq_true rfl) (Nat.le_of_ble_eq_true rfl)) sh_0 fl_10_10 rfl dX10_trialOf_25 ?_
      refine v_getR (pc := 28) (t := 11) hX (hcs 1 (Nat.le_of_ble_eq_true rfl) (Nat.le_of_ble_eq_true rfl)) sh_1 fl_10_139 rfl dX10_trialOf_28 ?_
      refine v_getI (pc := 31) hX (hcs 11 (Nat.le_of_ble_eq_true rfl) (Nat.le_of_ble_eq_true rfl)) sh_11 fl_10_191 rfl dX10_trialOf_31 ?_
      obtain ⟨M6, h5, h⟩ := b1_e h
      refine v_callV (pc := 34) [.ref (ad 1), .int (M.1 11 1)] none M6 hX cv_10_220 (c_X9_gather (sub_cs hcs (Nat.le_of_ble_eq_true rfl) (Nat.le_of_ble_eq_true rfl)) M (M.1 11 1) M6 h5) (hcs 86 (Nat.le_of_ble_eq_true rfl) (Nat.le_of_ble_eq_true rfl)) sh_86 rfl rfl rfl ⟨Nat.le_of_ble_eq_true rfl, Nat.le_of_ble_eq_true rfl⟩ (Nat.le_of_ble_eq_true rfl) dX10_trialOf_34 ?_
      show VV X 3 ad cs M6 37 [(0, .ref (ad 0)), (1, .int w1), (2, .int w2)] []
      refine v_iload_n (pc := 37) 1 hX dX10_trialOf_37 rfl ?_
      refine v_aload_n (pc := 38) 0 hX dX10_trialOf_38 rfl ?_
      refine v_getR (pc := 39) (t := 86) hX (hcs 0 (Nat.le_of_ble_eq_true rfl) (Nat.le_of_ble_eq_true rfl)) sh_0 fl_10_44 rfl dX10_trialOf_39 ?_
      refine v_getI (pc := 42) hX (hcs 86 (Nat.le_of_ble_eq_true rfl) (Nat.le_of_ble_eq_true rfl)) sh_86 fl_10_224 rfl dX10_trialOf_42 ?_
      refine v_icmp_lt (pc := 45) (tgt := 51) hX dX10_trialOf_45 (by decide) (fun h7 => ?_) (fun h7 => ?_)
      · have h := if_t h h7
        refine v_iload_n (pc := 51) 2 hX dX10_trialOf_51 rfl ?_
        refine v_if_ne (pc := 52) (tgt := 67) hX dX10_trialOf_52 (by decide) (fun h8 => ?_) (fun h8 => ?_)
        · have h := if_f h h8
          refine v_aload_n (pc := 67) 0 hX dX10_trialOf_67 rfl ?_
          refine v_getR (pc := 68) (t := 86) hX (hcs 0 (Nat.le_of_ble_eq_true rfl) (Nat.le_of_ble_eq_true rfl)) sh_0 fl_10_44 rfl dX10_trialOf_68 ?_
          refine v_iload_n (pc := 71) 1 hX dX10_trialOf_71 rfl ?_
          obtain ⟨x10, h9, h⟩ := b1_e h
          refine v_callV (pc := 72) [.int w1] (some (.int x10)) M6 hX cv_10_227 (c_X9_isBetter (sub_cs hcs (Nat.le_of_ble_eq_true rfl) (Nat.le_of_ble_eq_true rfl)) M6 w1 x10 h9) (hcs 86 (Nat.le_of_ble_eq_true rfl) (Nat.le_of_ble_eq_true rfl)) sh_86 rfl rfl rfl ⟨Nat.le_of_ble_eq_true rfl, Nat.le_of_ble_eq_true rfl⟩ (Nat.le_of_ble_eq_true rfl) dX10_trialOf_72 ?_
          show VV X 3 ad cs M6 75 [(0, .ref (ad 0)), (1, .int w1), (2, .int w2)] [.int x10]
          obtain ⟨x12, h11, h⟩ := b1_e h
          refine v_callS (pc := 75) [.int x10] (some (.int x12)) M6 hX cv_10_121 (c_X10_oneIf M6 x10 x12 h11) rfl rfl ⟨Nat.le_of_ble_eq_true rfl, Nat.le_of_ble_eq_true rfl⟩ (Nat.le_of_ble_eq_true rfl) dX10_trialOf_75 ?_
          show VV X 3 ad cs M6 78 [(0, .ref (ad 0)), (1, .int w1), (2, .int w2)] [.int x12]
          obtain rfl := Option.some.inj h
          exact v_iret (pc := 78) hX hR dX10_trialOf_78
        · have h := if_t h h8
          refine v_aload_n (pc := 55) 0 hX dX10_trialOf_55 rfl ?_
          refine v_getR (pc := 56) (t := 86) hX (hcs 0 (Nat.le_of_ble_eq_true rfl) (Nat.le_of_ble_eq_true rfl)) sh_0 fl_10_44 rfl dX10_trialOf_56 ?_
          refine v_getR (pc := 59) (t := 87) hX (hcs 86 (Nat.le_of_ble_eq_true rfl) (Nat.le_of_ble_eq_true rfl)) sh_86 fl_10_225 rfl dX10_trialOf_59 ?_
          refine v_iload_n (pc := 62) 1 hX dX10_trialOf_62 rfl ?_
          obtain ⟨g13, h⟩ := gd_e h
          refine v_iald (pc := 63) hX (hcs 87 (Nat.le_of_ble_eq_true rfl) (Nat.le_of_ble_eq_true rfl)) sh_87 g13 rfl dX10_trialOf_63 ?_
          refine v_goto (pc := 64) (tgt := 78) hX dX10_trialOf_64 (by decide) ?_
          obtain rfl := Option.some.inj h
          exact v_iret (pc := 78) hX hR dX10_trialOf_78
      · have h := if_f h h7
        refine v_ldc (pc := 48) hX kc_10_178 dX10_trialOf_48 ?_
        obtain rfl := Option.some.inj h
        exact v_iret (pc := 50) hX hR dX10_trialOf_50
    · have h := if_t h h4
      refine v_ldc (pc := 13) hX kc_10_66 dX10_trialOf_13 ?_
      obtain rfl := Option.some.inj h
      exact v_iret (pc := 15) hX hR dX10_trialOf_15
set_option maxHeartbeats 4000000 in
set_option maxRecDepth 100000 in
theorem c_X5_addAlong {ad : Nat → Nat} {cs : List Nat} (hcs : ∀ k, 92 ≤ k → k < 94 → k ∈ cs) (M : Mm) (w1 : Int32) (w2 : Int32) (q : Mm) (h : fX5_addAlong M w1 w2 = some q) : CT ad cs yX5_addAlong cX5_addAlong 4 none 0 0 [.ref (ad 92), .int w1, .int w2] M none q := by
  refine CT.of RX5 (by decide +kernel) rfl (Nat.le_of_ble_eq_true rfl) (fun X hX hR => ?_)
  unfold fX5_addAlong at h
  show VV X 4 ad cs M 0 [(0, .ref (ad 92)), (1, .int w1), (2, .int w2)] []
  refine v_iconst (pc := 0) hX dX5_addAlong_0 ic_0 ?_
  refine v_istore_n (pc := 1) [(3, .int 0), (0, .ref (ad 92)), (1, .int w1), (2, .int w2)] hX dX5_addAlong_1 (by decide) rfl ?_
  have L11 := v_itr (fX5_addAlong_L2 w1 w2) (fun z => VV X 4 ad cs z.2 2 [(0, .ref (ad 92)), (1, .int w1), (2, .int w2), (3, .int z.1)] []) (fun z => VV X 4 ad cs z 36 [(0, .ref (ad 92))] []) (by
    rintro ⟨x1, M2⟩ q h hK
    unfold fX5_addAlong_L2 at h
    have h := u2_b h
    show VV X 4 ad cs M2 2 [(0, .ref (ad 92)), (1, .int w1), (2, .int w2), (3, .int x1)] []
    refine v_iload_n (pc := 2) 3 hX dX5_addAlong_2 rfl ?_
    refine v_iconst (pc := 3) hX dX5_addAlong_3 ic_3 ?_
    refine v_icmp_ge (pc := 4) (tgt := 36) hX dX5_addAlong_4 (by decide) (fun h3 => ?_) (fun h3 => ?_)
    · have h := if_t h h3
      obtain rfl := Option.some.inj h
      exact v_sub [0] rfl hK
    · have h := if_f h h3
      refine v_aload_n (pc := 7) 0 hX dX5_addAlong_7 rfl ?_
      refine v_getR (pc := 8) (t := 93) hX (hcs 92 (Nat.le_of_ble_eq_true rfl) (Nat.le_of_ble_eq_true rfl)) sh_92 fl_5_9 rfl dX5_addAlong_8 ?_
      refine v_iconst (pc := 11) hX dX5_addAlong_11 ic_3 ?_
      refine v_aload_n (pc := 12) 0 hX dX5_addAlong_12 rfl ?_
      refine v_getI (pc := 13) hX (hcs 92 (Nat.le_of_ble_eq_true rfl) (Nat.le_of_ble_eq_true rfl)) sh_92 fl_5_22 rfl dX5_addAlong_13 ?_
      refine v_imul (pc := 16) hX dX5_addAlong_16 ?_
      refine v_iload_n (pc := 17) 3 hX dX5_addAlong_17 rfl ?_
      refine v_iadd (pc := 18) hX dX5_addAlong_18 ?_
      refine v_iload_n (pc := 19) 3 hX dX5_addAlong_19 rfl ?_
      refine v_iload_n (pc := 20) 1 hX dX5_addAlong_20 rfl ?_
      obtain ⟨k4, ek4, h⟩ := bd_e h
      have K5 : ∀ (x6 : Int32), k4 x6 = some q → VV X 4 ad cs M2 29 [(0, .ref (ad 92)), (1, .int w1), (2, .int w2), (3, .int x1)] [.int x6, .int ((3 * (M2.1 92 0)) + x1), .ref (ad 93)] := by
        intro x6 h
        subst ek4
        obtain ⟨g7, h⟩ := gd_e h
        obtain ⟨M8, eM8, h⟩ := bd_e h
        refine v_iast (pc := 29) hX (hcs 93 (Nat.le_of_ble_eq_true rfl) (Nat.le_of_ble_eq_true rfl)) sh_93 g7 rfl dX5_addAlong_29 eM8 ?_
        obtain ⟨x9, ex9, h⟩ := bd_e h
        refine v_iinc (v := x9) (pc := 30) 3 [(3, .int x9), (0, .ref (ad 92)), (1, .int w1), (2, .int w2)] hX dX5_addAlong_30 rfl (ex9.trans (by rw [ic_1])) (by decide) rfl ?_
        refine v_goto (pc := 33) (tgt := 2) hX dX5_addAlong_33 (by decide) ?_
        obtain rfl := Option.some.inj h
        exact v_sub [1, 2, 3, 0] rfl hK
      refine v_icmp_ne (pc := 21) (tgt := 28) hX dX5_addAlong_21 (by decide) (fun h10 => ?_) (fun h10 => ?_)
      · have h := if_f h h10
        refine v_iconst (pc := 28) hX dX5_addAlong_28 ic_0 ?_
        exact v_sub [0, 1, 2, 3] rfl (K5 0 h)
      · have h := if_t h h10
        refine v_iload_n (pc := 24) 2 hX dX5_addAlong_24 rfl ?_
        refine v_goto (pc := 25) (tgt := 29) hX dX5_addAlong_25 (by decide) ?_
        exact v_sub [0, 1, 2, 3] rfl (K5 w2 h)
  )
  obtain ⟨M12, h14, h⟩ := b1_e h
  refine v_sub [1, 2, 3, 0] rfl ?_
  refine L11 1000 _ _ h14 ?_
  show VV X 4 ad cs M12 36 [(0, .ref (ad 92))] []
  refine v_aload_n (pc := 36) 0 hX dX5_addAlong_36 rfl ?_
  refine v_dup (pc := 37) hX dX5_addAlong_37 rfl ?_
  refine v_getI (pc := 38) hX (hcs 92 (Nat.le_of_ble_eq_true rfl) (Nat.le_of_ble_eq_true rfl)) sh_92 fl_5_22 rfl dX5_addAlong_38 ?_
  refine v_iconst (pc := 41) hX dX5_addAlong_41 ic_1 ?_
  refine v_iadd (pc := 42) hX dX5_addAlong_42 ?_
  obtain ⟨M13, eM13, h⟩ := bd_e h
  refine v_putI (pc := 43) hX (hcs 92 (Nat.le_of_ble_eq_true rfl) (Nat.le_of_ble_eq_true rfl)) sh_92 pl_5_22 rfl dX5_addAlong_43 eM13 ?_
  obtain rfl := Option.some.inj h
  exact v_vret (pc := 46) hX hR dX5_addAlong_46
set_option maxHeartbeats 4000000 in
set_option maxRecDepth 100000 in
theorem c_X5_fill {ad : Nat → Nat} {cs : List Nat} (hcs : ∀ k, 8 ≤ k → k < 94 → k ∈ cs) (M : Mm) (w2 : Int32) (q : Mm) (h : fX5_fill M w2 = some q) : CT ad cs yX5_fill cX5_fill 4 none 1 26 [.ref (ad 92), .ref (ad 8), .int w2] M none q := by
  refine CT.of RX5 (by decide +kernel) rfl (Nat.le_of_ble_eq_true rfl) (fun X hX hR => ?_)
  unfold fX5_fill at h
  show VV X 4 ad cs M 0 [(0, .ref (ad 92)), (1, .ref (ad 8)), (2, .int w2)] []
  refine v_aload_n (pc := 0) 0 hX dX5_fill_0 rfl ?_
  refine v_aload_n (pc := 1) 1 hX dX5_fill_1 rfl ?_
  refine v_getI (pc := 2) hX (hcs 8 (Nat.le_of_ble_eq_true rfl) (Nat.le_of_ble_eq_true rfl)) sh_8 fl_5_34 rfl dX5_fill_2 ?_
  obtain ⟨M1, eM1, h⟩ := bd_e h
  refine v_putI (pc := 5) hX (hcs 92 (Nat.le_of_ble_eq_true rfl) (Nat.le_of_ble_eq_true rfl)) sh_92 pl_5_22 rfl dX5_fill_5 eM1 ?_
  refine v_aload_n (pc := 8) 1 hX dX5_fill_8 rfl ?_
  refine v_getR (pc := 9) (t := 9) hX (hcs 8 (Nat.le_of_ble_eq_true rfl) (Nat.le_of_ble_eq_true rfl)) sh_8 fl_5_37 rfl dX5_fill_9 ?_
  refine v_iconst (pc := 12) hX dX5_fill_12 ic_0 ?_
  refine v_aload_n (pc := 13) 0 hX dX5_fill_13 rfl ?_
  refine v_getR (pc := 14) (t := 93) hX (hcs 92 (Nat.le_of_ble_eq_true rfl) (Nat.le_of_ble_eq_true rfl)) sh_92 fl_5_9 rfl dX5_fill_14 ?_
  refine v_iconst (pc := 17) hX dX5_fill_17 ic_0 ?_
  refine v_iconst (pc := 18) hX dX5_fill_18 ic_3 ?_
  refine v_aload_n (pc := 19) 0 hX dX5_fill_19 rfl ?_
  refine v_getI (pc := 20) hX (hcs 92 (Nat.le_of_ble_eq_true rfl) (Nat.le_of_ble_eq_true rfl)) sh_92 fl_5_22 rfl dX5_fill_20 ?_
  refine v_imul (pc := 23) hX dX5_fill_23 ?_
  obtain ⟨g3, h⟩ := gd_e h
  obtain ⟨M2, eM2, h⟩ := bd_e h
  refine v_copy (pc := 24) hX cm_5_40 (hcs 9 (Nat.le_of_ble_eq_true rfl) (Nat.le_of_ble_eq_true rfl)) (hcs 93 (Nat.le_of_ble_eq_true rfl) (Nat.le_of_ble_eq_true rfl)) sh_9 sh_93 nn_0 nn_0 (nn_of g3.1) ix_0 ix_0 rfl g3.2.1 g3.2.2 (Nat.le_of_ble_eq_true rfl) (Nat.le_of_ble_eq_true rfl) dX5_fill_24 eM2 ?_
  refine v_iload_n (pc := 27) 2 hX dX5_fill_27 rfl ?_
  refine v_istore_n (pc := 28) [(3, .int w2), (0, .ref (ad 92)), (1, .ref (ad 8)), (2, .int w2)] hX dX5_fill_28 (by decide) rfl ?_
  have L12 := v_itr (fX5_fill_L29) (fun z => VV X 4 ad cs z.2 29 [(0, .ref (ad 92)), (3, .int z.1)] []) (fun z => VV X 4 ad cs z 52 [] []) (by
    rintro ⟨x4, M5⟩ q h hK
    unfold fX5_fill_L29 at h
    have h := u2_b h
    show VV X 4 ad cs M5 29 [(0, .ref (ad 92)), (3, .int x4)] []
    refine v_iload_n (pc := 29) 1 hX dX5_fill_29 rfl ?_
    refine v_iconst (pc := 30) hX dX5_fill_30 ic_3 ?_
    refine v_icmp_ge (pc := 31) (tgt := 52) hX dX5_fill_31 (by decide) (fun h6 => ?_) (fun h6 => ?_)
    · have h := if_t h h6
      obtain rfl := Option.some.inj h
      exact v_sub [] rfl hK
    · have h := if_f h h6
      refine v_aload_n (pc := 34) 0 hX dX5_fill_34 rfl ?_
      refine v_iload_n (pc := 35) 1 hX dX5_fill_35 rfl ?_
      refine v_iconst (pc := 36) hX dX5_fill_36 ic_1 ?_
      obtain ⟨M8, h7, h⟩ := b1_e h
      refine v_callV (pc := 37) [.int x4, .int 1] none M8 hX cv_5_46 (c_X5_addAlong (sub_cs hcs (Nat.le_of_ble_eq_true rfl) (Nat.le_of_ble_eq_true rfl)) M5 x4 1 M8 h7) (hcs 92 (Nat.le_of_ble_eq_true rfl) (Nat.le_of_ble_eq_true rfl)) sh_92 rfl rfl rfl ⟨Nat.le_of_ble_eq_true rfl, Nat.le_of_ble_eq_true rfl⟩ (Nat.le_of_ble_eq_true rfl) dX5_fill_37 ?_
      show VV X 4 ad cs M8 40 [(0, .ref (ad 92)), (3, .int x4)] []
      refine v_aload_n (pc := 40) 0 hX dX5_fill_40 rfl ?_
      refine v_iload_n (pc := 41) 1 hX dX5_fill_41 rfl ?_
      refine v_iconst (pc := 42) hX dX5_fill_42 ic_m1 ?_
      obtain ⟨M10, h9, h⟩ := b1_e h
      refine v_callV (pc := 43) [.int x4, .int (-1)] none M10 hX cv_5_46 (c_X5_addAlong (sub_cs hcs (Nat.le_of_ble_eq_true rfl) (Nat.le_of_ble_eq_true rfl)) M8 x4 (-1) M10 h9) (hcs 92 (Nat.le_of_ble_eq_true rfl) (Nat.le_of_ble_eq_true rfl)) sh_92 rfl rfl rfl ⟨Nat.le_of_ble_eq_true rfl, Nat.le_of_ble_eq_true rfl⟩ (Nat.le_of_ble_eq_true rfl) dX5_fill_43 ?_
      show VV X 4 ad cs M10 46 [(0, .ref (ad 92)), (3, .int x4)] []
      obtain ⟨x11, ex11, h⟩ := bd_e h
      refine v_iinc (v := x11) (pc := 46) 1 [(3, .int x11), (0, .ref (ad 92))] hX dX5_fill_46 rfl (ex11.trans (by rw [ic_1])) (by decide) rfl ?_
      refine v_goto (pc := 49) (tgt := 29) hX dX5_fill_49 (by decide) ?_
      obtain rfl := Option.some.inj h
      exact v_sub [1, 0] rfl hK
  )
  obtain ⟨M13, h14, h⟩ := b1_e h
  refine v_sub [1, 0] rfl ?_
  refine L12 1000 _ _ h14 ?_
  show VV X 4 ad cs M13 52 [] []
  obtain rfl := Option.some.inj h
  exact v_vret (pc := 52) hX hR dX5_fill_52
set_option maxHeartbeats 4000000 in
set_option maxRecDepth 100000 in
theorem c_X5_findNormal {ad : Nat → Nat} {cs : List Nat} (hcs : ∀ k, 92 ≤ k → k < 95 → k ∈ cs) (M : Mm) (w1 : Int32) (w2 : Int32) (q : Int32 × Mm) (h : fX5_findNormal M w1 w2 = some q) : CT ad cs yX5_findNormal cX5_findNormal 3 (some .boolean) 0 0 [.ref (ad 92), .int w1, .int w2] M (some (.int q.1)) q.2 := by
  refine CT.of RX5 (by decide +kernel) rfl (Nat.le_of_ble_eq_true rfl) (fun X hX hR => ?_)
  unfold fX5_findNormal at h
  show VV X 3 ad cs M 0 [(0, .ref (ad 92)), (1, .int w1), (2, .int w2)] []
  refine v_aload_n (pc := 0) 0 hX dX5_findNormal_0 rfl ?_
  refine v_getR (pc := 1) (t := 94) hX (hcs 92 (Nat.le_of_ble_eq_true rfl) (Nat.le_of_ble_eq_true rfl)) sh_92 fl_5_15 rfl dX5_findNormal_1 ?_
  refine v_iconst (pc := 4) hX dX5_findNormal_4 ic_0 ?_
  refine v_aload_n (pc := 5) 0 hX dX5_findNormal_5 rfl ?_
  refine v_getR (pc := 6) (t := 93) hX (hcs 92 (Nat.le_of_ble_eq_true rfl) (Nat.le_of_ble_eq_true rfl)) sh_92 fl_5_9 rfl dX5_findNormal_6 ?_
  refine v_iload_n (pc := 9) 1 hX dX5_findNormal_9 rfl ?_
  refine v_iconst (pc := 10) hX dX5_findNormal_10 ic_1 ?_
  refine v_iadd (pc := 11) hX dX5_findNormal_11 ?_
  obtain ⟨g1, h⟩ := gd_e h
  refine v_iald (pc := 12) hX (hcs 93 (Nat.le_of_ble_eq_true rfl) (Nat.le_of_ble_eq_true rfl)) sh_93 g1 rfl dX5_findNormal_12 ?_
  refine v_aload_n (pc := 13) 0 hX dX5_findNormal_13 rfl ?_
  refine v_getR (pc := 14) (t := 93) hX (hcs 92 (Nat.le_of_ble_eq_true rfl) (Nat.le_of_ble_eq_true rfl)) sh_92 fl_5_9 rfl dX5_findNormal_14 ?_
  refine v_iload_n (pc := 17) 2 hX dX5_findNormal_17 rfl ?_
  refine v_iconst (pc := 18) hX dX5_findNormal_18 ic_2 ?_
  refine v_iadd (pc := 19) hX dX5_findNormal_19 ?_
  obtain ⟨g2, h⟩ := gd_e h
  refine v_iald (pc := 20) hX (hcs 93 (Nat.le_of_ble_eq_true rfl) (Nat.le_of_ble_eq_true rfl)) sh_93 g2 rfl dX5_findNormal_20 ?_
  refine v_imul (pc := 21) hX dX5_findNormal_21 ?_
  refine v_aload_n (pc := 22) 0 hX dX5_findNormal_22 rfl ?_
  refine v_getR (pc := 23) (t := 93) hX (hcs 92 (Nat.le_of_ble_eq_true rfl) (Nat.le_of_ble_eq_true rfl)) sh_92 fl_5_9 rfl dX5_findNormal_23 ?_
  refine v_iload_n (pc := 26) 1 hX dX5_findNormal_26 rfl ?_
  refine v_iconst (pc := 27) hX dX5_findNormal_27 ic_2 ?_
  refine v_iadd (pc := 28) hX dX5_findNormal_28 ?_
  obtain ⟨g3, h⟩ := gd_e h
  refine v_iald (pc := 29) hX (hcs 93 (Nat.le_of_ble_eq_true rfl) (Nat.le_of_ble_eq_true rfl)) sh_93 g3 rfl dX5_findNormal_29 ?_
  refine v_aload_n (pc := 30) 0 hX dX5_findNormal_30 rfl ?_
  refine v_getR (pc := 31) (t := 93) hX (hcs 92 (Nat.le_of_ble_eq_true rfl) (Nat.le_of_ble_eq_true rfl)) sh_92 fl_5_9 rfl dX5_findNormal_31 ?_
  refine v_iload_n (pc := 34) 2 hX dX5_findNormal_34 rfl ?_
  refine v_iconst (pc := 35) hX dX5_findNormal_35 ic_1 ?_
  refine v_iadd (pc := 36) hX dX5_findNormal_36 ?_
  obtain ⟨g4, h⟩ := gd_e h
  refine v_iald (pc := 37) hX (hcs 93 (Nat.le_of_ble_eq_true rfl) (Nat.le_of_ble_eq_true rfl)) sh_93 g4 rfl dX5_findNormal_37 ?_
  refine v_imul (pc := 38) hX dX5_findNormal_38 ?_
  refine v_isub (pc := 39) hX dX5_findNormal_39 ?_
  obtain ⟨M5, eM5, h⟩ := bd_e h
  refine v_iast (pc := 40) hX (hcs 94 (Nat.le_of_ble_eq_true rfl) (Nat.le_of_ble_eq_true rfl)) sh_94 (ib_0 (by decide)) ix_0 dX5_findNormal_40 eM5 ?_
  refine v_aload_n (pc := 41) 0 hX dX5_findNormal_41 rfl ?_
  refine v_getR (pc := 42) (t := 94) hX (hcs 92 (Nat.le_of_ble_eq_true rfl) (Nat.le_of_ble_eq_true rfl)) sh_92 fl_5_15 rfl dX5_findNormal_42 ?_
  refine v_iconst (pc := 45) hX dX5_findNormal_45 ic_1 ?_
  refine v_aload_n (pc := 46) 0 hX dX5_findNormal_46 rfl ?_
  refine v_getR (pc := 47) (t := 93) hX (hcs 92 (Nat.le_of_ble_eq_true rfl) (Nat.le_of_ble_eq_true rfl)) sh_92 fl_5_9 rfl dX5_findNormal_47 ?_
  refine v_iload_n (pc := 50) 1 hX dX5_findNormal_50 rfl ?_
  refine v_iconst (pc := 51) hX dX5_findNormal_51 ic_2 ?_
  refine v_iadd (pc := 52) hX dX5_findNormal_52 ?_
  refine v_iald (pc := 53) hX (hcs 93 (Nat.le_of_ble_eq_true rfl) (Nat.le_of_ble_eq_true rfl)) sh_93 g3 rfl dX5_findNormal_53 ?_
  refine v_aload_n (pc := 54) 0 hX dX5_findNormal_54 rfl ?_
  refine v_getR (pc := 55) (t := 93) hX (hcs 92 (Nat.le_of_ble_eq_true rfl) (Nat.le_of_ble_eq_true rfl)) sh_92 fl_5_9 rfl dX5_findNormal_55 ?_
  refine v_iload_n (pc := 58) 2 hX dX5_findNormal_58 rfl ?_
  obtain ⟨g6, h⟩ := gd_e h
  refine v_iald (pc := 59) hX (hcs 93 (Nat.le_of_ble_eq_true rfl) (Nat.le_of_ble_eq_true rfl)) sh_93 g6 rfl dX5_findNormal_59 ?_
  refine v_imul (pc := 60) hX dX5_findNormal_60 ?_
  refine v_aload_n (pc := 61) 0 hX dX5_findNormal_61 rfl ?_
  refine v_getR (pc := 62) (t := 93) hX (hcs 92 (Nat.le_of_ble_eq_true rfl) (Nat.le_of_ble_eq_true rfl)) sh_92 fl_5_9 rfl dX5_findNormal_62 ?_
  refine v_iload_n (pc := 65) 1 hX dX5_findNormal_65 rfl ?_
  obtain ⟨g7, h⟩ := gd_e h
  refine v_iald (pc := 66) hX (hcs 93 (Nat.le_of_ble_eq_true rfl) (Nat.le_of_ble_eq_true rfl)) sh_93 g7 rfl dX5_findNormal_66 ?_
  refine v_aload_n (pc := 67) 0 hX dX5_findNormal_67 rfl ?_
  refine v_getR (pc := 68) (t := 93) hX (hcs 92 (Nat.le_of_ble_eq_true rfl) (Nat.le_of_ble_eq_true rfl)) sh_92 fl_5_9 rfl dX5_findNormal_68 ?_
  refine v_iload_n (pc := 71) 2 hX dX5_findNormal_71 rfl ?_
  refine v_iconst (pc := 72) hX dX5_findNormal_72 ic_2 ?_
  refine v_iadd (pc := 73) hX dX5_findNormal_73 ?_
  refine v_iald (pc := 74) hX (hcs 93 (Nat.le_of_ble_eq_true rfl) (Nat.le_of_ble_eq_true rfl)) sh_93 g2 rfl dX5_findNormal_74 ?_
  refine v_imul (pc := 75) hX dX5_findNormal_75 ?_
  refine v_isub (pc := 76) hX dX5_findNormal_76 ?_
  obtain ⟨M8, eM8, h⟩ := bd_e h
  refine v_iast (pc := 77) hX (hcs 94 (Nat.le_of_ble_eq_true rfl) (Nat.le_of_ble_eq_true rfl)) sh_94 (ib_1 (by decide)) ix_1 dX5_findNormal_77 eM8 ?_
  refine v_aload_n (pc := 78) 0 hX dX5_findNormal_78 rfl ?_
  refine v_getR (pc := 79) (t := 94) hX (hcs 92 (Nat.le_of_ble_eq_true rfl) (Nat.le_of_ble_eq_true rfl)) sh_92 fl_5_15 rfl dX5_findNormal_79 ?_
  refine v_iconst (pc := 82) hX dX5_findNormal_82 ic_2 ?_
  refine v_aload_n (pc := 83) 0 hX dX5_findNormal_83 rfl ?_
  refine v_getR (pc := 84) (t := 93) hX (hcs 92 (Nat.le_of_ble_eq_true rfl) (Nat.le_of_ble_eq_true rfl)) sh_92 fl_5_9 rfl dX5_findNormal_84 ?_
  refine v_iload_n (pc := 87) 1 hX dX5_findNormal_87 rfl ?_
  refine v_iald (pc := 88) hX (hcs 93 (Nat.le_of_ble_eq_true rfl) (Nat.le_of_ble_eq_true rfl)) sh_93 g7 rfl dX5_findNormal_88 ?_
  refine v_aload_n (pc := 89) 0 hX dX5_findNormal_89 rfl ?_
  refine v_getR (pc := 90) (t := 93) hX (hcs 92 (Nat.le_of_ble_eq_true rfl) (Nat.le_of_ble_eq_true rfl)) sh_92 fl_5_9 rfl dX5_findNormal_90 ?_
  refine v_iload_n (pc := 93) 2 hX dX5_findNormal_93 rfl ?_
  refine v_iconst (pc := 94) hX dX5_findNormal_94 ic_1 ?_
  refine v_iadd (pc := 95) hX dX5_findNormal_95 ?_
  refine v_iald (pc := 96) hX (hcs 93 (Nat.le_of_ble_eq_true rfl) (Nat.le_of_ble_eq_true rfl)) sh_93 g4 rfl dX5_findNormal_96 ?_
  refine v_imul (pc := 97) hX dX5_findNormal_97 ?_
  refine v_aload_n (pc := 98) 0 hX dX5_findNormal_98 rfl ?_
  refine v_getR (pc := 99) (t := 93) hX (hcs 92 (Nat.le_of_ble_eq_true rfl) (Nat.le_of_ble_eq_true rfl)) sh_92 fl_5_9 rfl dX5_findNormal_99 ?_
  refine v_iload_n (pc := 102) 1 hX dX5_findNormal_102 rfl ?_
  refine v_iconst (pc := 103) hX dX5_findNormal_103 ic_1 ?_
  refine v_iadd (pc := 104) hX dX5_findNormal_104 ?_
  refine v_iald (pc := 105) hX (hcs 93 (Nat.le_of_ble_eq_true rfl) (Nat.le_of_ble_eq_true rfl)) sh_93 g1 rfl dX5_findNormal_105 ?_
  refine v_aload_n (pc := 106) 0 hX dX5_findNormal_106 rfl ?_
  refine v_getR (pc := 107) (t := 93) hX (hcs 92 (Nat.le_of_ble_eq_true rfl) (Nat.le_of_ble_eq_true rfl)) sh_92 fl_5_9 rfl dX5_findNormal_107 ?_
  refine v_iload_n (pc := 110) 2 hX dX5_findNormal_110 rfl ?_
  refine v_iald (pc := 111) hX (hcs 93 (Nat.le_of_ble_eq_true rfl) (Nat.le_of_ble_eq_true rfl)) sh_93 g6 rfl dX5_findNormal_111 ?_
  refine v_imul (pc := 112) hX dX5_findNormal_112 ?_
  refine v_isub (pc := 113) hX dX5_findNormal_113 ?_
  obtain ⟨M9, eM9, h⟩ := bd_e h
  refine v_iast (pc := 114) hX (hcs 94 (Nat.le_of_ble_eq_true rfl) (Nat.le_of_ble_eq_true rfl)) sh_94 (ib_2 (by decide)) ix_2 dX5_findNormal_114 eM9 ?_
  refine v_aload_n (pc := 115) 0 hX dX5_findNormal_115 rfl ?_
  refine v_getR (pc := 116) (t := 94) hX (hcs 92 (Nat.le_of_ble_eq_true rfl) (Nat.le_of_ble_eq_true rfl)) sh_92 fl_5_15 rfl dX5_findNormal_116 ?_
  refine v_iconst (pc := 119) hX dX5_findNormal_119 ic_0 ?_
  refine v_iald (pc := 120) hX (hcs 94 (Nat.le_of_ble_eq_true rfl) (Nat.le_of_ble_eq_true rfl)) sh_94 (ib_0 (by decide)) ix_0 dX5_findNormal_120 ?_
  refine v_if_ne (pc := 121) (tgt := 142) hX dX5_findNormal_121 (by decide) (fun h10 => ?_) (fun h10 => ?_)
  · have h := if_f h h10
    refine v_iconst (pc := 142) hX dX5_findNormal_142 ic_1 ?_
    refine v_goto (pc := 143) (tgt := 147) hX dX5_findNormal_143 (by decide) ?_
    obtain rfl := Option.some.inj h
    exact v_zret (pc := 147) hX hR (Or.inr rfl) dX5_findNormal_147
  · have h := if_t h h10
    refine v_aload_n (pc := 124) 0 hX dX5_findNormal_124 rfl ?_
    refine v_getR (pc := 125) (t := 94) hX (hcs 92 (Nat.le_of_ble_eq_true rfl) (Nat.le_of_ble_eq_true rfl)) sh_92 fl_5_15 rfl dX5_findNormal_125 ?_
    refine v_iconst (pc := 128) hX dX5_findNormal_128 ic_1 ?_
    refine v_iald (pc := 129) hX (hcs 94 (Nat.le_of_ble_eq_true rfl) (Nat.le_of_ble_eq_true rfl)) sh_94 (ib_1 (by decide)) ix_1 dX5_findNormal_129 ?_
    refine v_if_ne (pc := 130) (tgt := 142) hX dX5_findNormal_130 (by decide) (fun h11 => ?_) (fun h11 => ?_)
    · have h := if_f h h11
      refine v_iconst (pc := 142) hX dX5_findNormal_142 ic_1 ?_
      refine v_goto (pc := 143) (tgt := 147) hX dX5_findNormal_143 (by decide) ?_
      obtain rfl := Option.some.inj h
      exact v_zret (pc := 147) hX hR (Or.inr rfl) dX5_findNormal_147
    · have h := if_t h h11
      refine v_aload_n (pc := 133) 0 hX dX5_findNormal_133 rfl ?_
      refine v_getR (pc := 134) (t := 94) hX (hcs 92 (Nat.le_of_ble_eq_true rfl) (Nat.le_of_ble_eq_true rfl)) sh_92 fl_5_15 rfl dX5_findNormal_134 ?_
      refine v_iconst (pc := 137) hX dX5_findNormal_137 ic_2 ?_
      refine v_iald (pc := 138) hX (hcs 94 (Nat.le_of_ble_eq_true rfl) (Nat.le_of_ble_eq_true rfl)) sh_94 (ib_2 (by decide)) ix_2 dX5_findNormal_138 ?_
      refine v_if_eq (pc := 139) (tgt := 146) hX dX5_findNormal_139 (by decide) (fun h12 => ?_) (fun h12 => ?_)
      · have h := if_t h h12
        refine v_iconst (pc := 146) hX dX5_findNormal_146 ic_0 ?_
        obtain rfl := Option.some.inj h
        exact v_zret (pc := 147) hX hR (Or.inl rfl) dX5_findNormal_147
      · have h := if_f h h12
        refine v_iconst (pc := 142) hX dX5_findNormal_142 ic_1 ?_
        refine v_goto (pc := 143) (tgt := 147) hX dX5_findNormal_143 (by decide) ?_
        obtain rfl := Option.some.inj h
        exact v_zret (pc := 147) hX hR (Or.inr rfl) dX5_findNormal_147
set_option maxHeartbeats 4000000 in
set_option maxRecDepth 100000 in
theorem c_X5_hasRowsOnBothSides {ad : Nat → Nat} {cs : List Nat} (hcs : ∀ k, 92 ≤ k → k < 95 → k ∈ cs) (M : Mm) (q : Int32) (h : fX5_hasRowsOnBothSides M = some q) : CT ad cs yX5_hasRowsOnBothSides cX5_hasRowsOnBothSides 6 (some .boolean) 0 0 [.ref (ad 92)] M (some (.int q)) M := by
  refine CT.of RX5 (by decide +kernel) rfl (Nat.le_of_ble_eq_true rfl) (fun X hX hR => ?_)
  unfold fX5_hasRowsOnBothSides at h
  show VV X 6 ad cs M 0 [(0, .ref (ad 92))] []
  refine v_iconst (pc := 0) hX dX5_hasRowsOnBothSides_0 ic_0 ?_
  refine v_istore_n (pc := 1) [(1, .int 0), (0, .ref (ad 92))] hX dX5_hasRowsOnBothSides_1 (by decide) rfl ?_
  refine v_iconst (pc := 2) hX dX5_hasRowsOnBothSides_2 ic_0 ?_
  refine v_istore_n (pc := 3) [(2, .int 0), (1, .int 0), (0, .ref (ad 92))] hX dX5_hasRowsOnBothSides_3 (by decide) rfl ?_
  refine v_iconst (pc := 4) hX dX5_hasRowsOnBothSides_4 ic_0 ?_
  refine v_istore_n (pc := 5) [(3, .int 0), (2, .int 0), (1, .int 0), (0, .ref (ad 92))] hX dX5_hasRowsOnBothSides_5 (by decide) rfl ?_
  have L25 := v_itr (fX5_hasRowsOnBothSides_L6 M) (fun z => VV X 6 ad cs M 6 [(0, .ref (ad 92)), (1, .int z.1), (2, .int z.2.1), (3, .int z.2.2)] []) (fun z => VV X 6 ad cs M 105 [(1, .int z.1), (2, .int z.2)] []) (by
    rintro ⟨x1, x2, x3⟩ q h hK
    unfold fX5_hasRowsOnBothSides_L6 at h
    have h := u3_b h
    show VV X 6 ad cs M 6 [(0, .ref (ad 92)), (1, .int x1), (2, .int x2), (3, .int x3)] []
    refine v_iload_n (pc := 6) 3 hX dX5_hasRowsOnBothSides_6 rfl ?_
    refine v_aload_n (pc := 7) 0 hX dX5_hasRowsOnBothSides_7 rfl ?_
    refine v_getI (pc := 8) hX (hcs 92 (Nat.le_of_ble_eq_true rfl) (Nat.le_of_ble_eq_true rfl)) sh_92 fl_5_22 rfl dX5_hasRowsOnBothSides_8 ?_
    refine v_icmp_ge (pc := 11) (tgt := 105) hX dX5_hasRowsOnBothSides_11 (by decide) (fun h4 => ?_) (fun h4 => ?_)
    · have h := if_t h h4
      obtain rfl := Option.some.inj h
      exact v_sub [1, 2] rfl hK
    · have h := if_f h h4
      refine v_iconst (pc := 14) hX dX5_hasRowsOnBothSides_14 ic_3 ?_
      refine v_iload_n (pc := 15) 3 hX dX5_hasRowsOnBothSides_15 rfl ?_
      refine v_imul (pc := 16) hX dX5_hasRowsOnBothSides_16 ?_
      obtain ⟨x5, ex5, h⟩ := bd_e h
      refine v_top ex5 ?_
      refine v_istore (pc := 17) [(4, .int x5), (0, .ref (ad 92)), (1, .int x1), (2, .int x2), (3, .int x3)] hX dX5_hasRowsOnBothSides_17 (by decide) rfl ?_
      refine v_aload_n (pc := 19) 1 hX dX5_hasRowsOnBothSides_19 rfl ?_
      refine v_getR (pc := 20) (t := 94) hX (hcs 92 (Nat.le_of_ble_eq_true rfl) (Nat.le_of_ble_eq_true rfl)) sh_92 fl_5_15 rfl dX5_hasRowsOnBothSides_20 ?_
      refine v_iconst (pc := 23) hX dX5_hasRowsOnBothSides_23 ic_0 ?_
      refine v_iald (pc := 24) hX (hcs 94 (Nat.le_of_ble_eq_true rfl) (Nat.le_of_ble_eq_true rfl)) sh_94 (ib_0 (by decide)) ix_0 dX5_hasRowsOnBothSides_24 ?_
      refine v_aload_n (pc := 25) 1 hX dX5_hasRowsOnBothSides_25 rfl ?_
      refine v_getR (pc := 26) (t := 93) hX (hcs 92 (Nat.le_of_ble_eq_true rfl) (Nat.le_of_ble_eq_true rfl)) sh_92 fl_5_9 rfl dX5_hasRowsOnBothSides_26 ?_
      refine v_iload (pc := 29) 0 hX dX5_hasRowsOnBothSides_29 rfl ?_
      obtain ⟨g6, h⟩ := gd_e h
      refine v_iald (pc := 31) hX (hcs 93 (Nat.le_of_ble_eq_true rfl) (Nat.le_of_ble_eq_true rfl)) sh_93 g6 rfl dX5_hasRowsOnBothSides_31 ?_
      refine v_imul (pc := 32) hX dX5_hasRowsOnBothSides_32 ?_
      refine v_aload_n (pc := 33) 1 hX dX5_hasRowsOnBothSides_33 rfl ?_
      refine v_getR (pc := 34) (t := 94) hX (hcs 92 (Nat.le_of_ble_eq_true rfl) (Nat.le_of_ble_eq_true rfl)) sh_92 fl_5_15 rfl dX5_hasRowsOnBothSides_34 ?_
      refine v_iconst (pc := 37) hX dX5_hasRowsOnBothSides_37 ic_1 ?_
      refine v_iald (pc := 38) hX (hcs 94 (Nat.le_of_ble_eq_true rfl) (Nat.le_of_ble_eq_true rfl)) sh_94 (ib_1 (by decide)) ix_1 dX5_hasRowsOnBothSides_38 ?_
      refine v_aload_n (pc := 39) 1 hX dX5_hasRowsOnBothSides_39 rfl ?_
      refine v_getR (pc := 40) (t := 93) hX (hcs 92 (Nat.le_of_ble_eq_true rfl) (Nat.le_of_ble_eq_true rfl)) sh_92 fl_5_9 rfl dX5_hasRowsOnBothSides_40 ?_
      refine v_iload (pc := 43) 0 hX dX5_hasRowsOnBothSides_43 rfl ?_
      refine v_iconst (pc := 45) hX dX5_hasRowsOnBothSides_45 ic_1 ?_
      refine v_iadd (pc := 46) hX dX5_hasRowsOnBothSides_46 ?_
      obtain ⟨g7, h⟩ := gd_e h
      refine v_iald (pc := 47) hX (hcs 93 (Nat.le_of_ble_eq_true rfl) (Nat.le_of_ble_eq_true rfl)) sh_93 g7 rfl dX5_hasRowsOnBothSides_47 ?_
      refine v_imul (pc := 48) hX dX5_hasRowsOnBothSides_48 ?_
      refine v_iadd (pc := 49) hX dX5_hasRowsOnBothSides_49 ?_
      refine v_aload_n (pc := 50) 1 hX dX5_hasRowsOnBothSides_50 rfl ?_
      refine v_getR (pc := 51) (t := 94) hX (hcs 92 (Nat.le_of_ble_eq_true rfl) (Nat.le_of_ble_eq_true rfl)) sh_92 fl_5_15 rfl dX5_hasRowsOnBothSides_51 ?_
      refine v_iconst (pc := 54) hX dX5_hasRowsOnBothSides_54 ic_2 ?_
      refine v_iald (pc := 55) hX (hcs 94 (Nat.le_of_ble_eq_true rfl) (Nat.le_of_ble_eq_true rfl)) sh_94 (ib_2 (by decide)) ix_2 dX5_hasRowsOnBothSides_55 ?_
      refine v_aload_n (pc := 56) 1 hX dX5_hasRowsOnBothSides_56 rfl ?_
      refine v_getR (pc := 57) (t := 93) hX (hcs 92 (Nat.le_of_ble_eq_true rfl) (Nat.le_of_ble_eq_true rfl)) sh_92 fl_5_9 rfl dX5_hasRowsOnBothSides_57 ?_
      refine v_iload (pc := 60) 0 hX dX5_hasRowsOnBothSides_60 rfl ?_
      refine v_iconst (pc := 62) hX dX5_hasRowsOnBothSides_62 ic_2 ?_
      refine v_iadd (pc := 63) hX dX5_hasRowsOnBothSides_63 ?_
      obtain ⟨g8, h⟩ := gd_e h
      refine v_iald (pc := 64) hX (hcs 93 (Nat.le_of_ble_eq_true rfl) (Nat.le_of_ble_eq_true rfl)) sh_93 g8 rfl dX5_hasRowsOnBothSides_64 ?_
      refine v_imul (pc := 65) hX dX5_hasRowsOnBothSides_65 ?_
      refine v_iadd (pc := 66) hX dX5_hasRowsOnBothSides_66 ?_
      obtain ⟨x9, ex9, h⟩ := bd_e h
      refine v_top ex9 ?_
      refine v_istore (pc := 67) [(5, .int x9), (4, .int x5), (0, .ref (ad 92)), (1, .int x1), (2, .int x2), (3, .int x3)] hX dX5_hasRowsOnBothSides_67 (by decide) rfl ?_
      refine v_iload_n (pc := 69) 3 hX dX5_hasRowsOnBothSides_69 rfl ?_
      obtain ⟨k10, ek10, h⟩ := bd_e h
      have K11 : ∀ (x12 : Int32), k10 x12 = some q → VV X 6 ad cs M 83 [(0, .ref (ad 92)), (2, .int x2), (3, .int x3), (5, .int x9)] [.int x12] := by
        intro x12 h
        subst ek10
        refine v_istore_n (pc := 83) [(1, .int x12), (0, .ref (ad 92)), (2, .int x2), (3, .int x3), (5, .int x9)] hX dX5_hasRowsOnBothSides_83 (by decide) rfl ?_
        refine v_iload_n (pc := 84) 2 hX dX5_hasRowsOnBothSides_84 rfl ?_
        obtain ⟨k13, ek13, h⟩ := bd_e h
        have K14 : ∀ (x15 : Int32), k13 x15 = some q → VV X 6 ad cs M 98 [(0, .ref (ad 92)), (1, .int x12), (3, .int x3)] [.int x15] := by
          intro x15 h
          subst ek13
          refine v_istore_n (pc := 98) [(2, .int x15), (0, .ref (ad 92)), (1, .int x12), (3, .int x3)] hX dX5_hasRowsOnBothSides_98 (by decide) rfl ?_
          obtain ⟨x16, ex16, h⟩ := bd_e h
          refine v_iinc (v := x16) (pc := 99) 3 [(3, .int x16), (2, .int x15), (0, .ref (ad 92)), (1, .int x12)] hX dX5_hasRowsOnBothSides_99 rfl (ex16.trans (by rw [ic_1])) (by decide) rfl ?_
          refine v_goto (pc := 102) (tgt := 6) hX dX5_hasRowsOnBothSides_102 (by decide) ?_
          obtain rfl := Option.some.inj h
          exact v_sub [2, 3, 1, 0] rfl hK
        obtain ⟨k17, ek17, h⟩ := bd_e h
        have K18 : ∀ (_ : Unit), k17 () = some q → VV X 6 ad cs M 93 [(0, .ref (ad 92)), (1, .int x12), (3, .int x3)] [] := by
          intro _ h
          subst ek17
          refine v_iconst (pc := 93) hX dX5_hasRowsOnBothSides_93 ic_1 ?_
          refine v_goto (pc := 94) (tgt := 98) hX dX5_hasRowsOnBothSides_94 (by decide) ?_
          exact v_sub [0, 1, 2] rfl (K14 1 h)
        refine v_if_ne (pc := 85) (tgt := 93) hX dX5_hasRowsOnBothSides_85 (by decide) (fun h19 => ?_) (fun h19 => ?_)
        · have h := if_f h h19
          exact v_sub [1, 0, 3] rfl (K18 () h)
        · have h := if_t h h19
          refine v_iload (pc := 88) 4 hX dX5_hasRowsOnBothSides_88 rfl ?_
          refine v_if_ge (pc := 90) (tgt := 97) hX dX5_hasRowsOnBothSides_90 (by decide) (fun h20 => ?_) (fun h20 => ?_)
          · have h := if_t h h20
            refine v_iconst (pc := 97) hX dX5_hasRowsOnBothSides_97 ic_0 ?_
            exact v_sub [1, 0, 3] rfl (K14 0 h)
          · have h := if_f h h20
            exact v_sub [1, 0, 3] rfl (K18 () h)
      obtain ⟨k21, ek21, h⟩ := bd_e h
      have K22 : ∀ (_ : Unit), k21 () = some q → VV X 6 ad cs M 78 [(0, .ref (ad 92)), (2, .int x2), (3, .int x3), (5, .int x9)] [] := by
        intro _ h
        subst ek21
        refine v_iconst (pc := 78) hX dX5_hasRowsOnBothSides_78 ic_1 ?_
        refine v_goto (pc := 79) (tgt := 83) hX dX5_hasRowsOnBothSides_79 (by decide) ?_
        exact v_sub [0, 1, 2, 3] rfl (K11 1 h)
      refine v_if_ne (pc := 70) (tgt := 78) hX dX5_hasRowsOnBothSides_70 (by decide) (fun h23 => ?_) (fun h23 => ?_)
      · have h := if_f h h23
        exact v_sub [2, 4, 5, 0] rfl (K22 () h)
      · have h := if_t h h23
        refine v_iload (pc := 73) 0 hX dX5_hasRowsOnBothSides_73 rfl ?_
        refine v_if_le (pc := 75) (tgt := 82) hX dX5_hasRowsOnBothSides_75 (by decide) (fun h24 => ?_) (fun h24 => ?_)
        · have h := if_t h h24
          refine v_iconst (pc := 82) hX dX5_hasRowsOnBothSides_82 ic_0 ?_
          exact v_sub [2, 4, 5, 0] rfl (K11 0 h)
        · have h := if_f h h24
          exact v_sub [2, 4, 5, 0] rfl (K22 () h)
  )
  obtain ⟨x26, x27, h30, h⟩ := b2_e h
  refine v_sub [3, 2, 1, 0] rfl ?_
  refine L25 1000 _ _ h30 ?_
  show VV X 6 ad cs M 105 [(1, .int x26), (2, .int x27)] []
  refine v_iload_n (pc := 105) 0 hX dX5_hasRowsOnBothSides_105 rfl ?_
  refine v_if_eq (pc := 106) (tgt := 117) hX dX5_hasRowsOnBothSides_106 (by decide) (fun h28 => ?_) (fun h28 => ?_)
  · have h := if_t h h28
    refine v_iconst (pc := 117) hX dX5_hasRowsOnBothSides_117 ic_0 ?_
    obtain rfl := Option.some.inj h
    exact v_zret (pc := 118) hX hR (Or.inl rfl) dX5_hasRowsOnBothSides_118
  · have h := if_f h h28
    refine v_iload_n (pc := 109) 1 hX dX5_hasRowsOnBothSides_109 rfl ?_
    refine v_if_eq (pc := 110) (tgt := 117) hX dX5_hasRowsOnBothSides_110 (by decide) (fun h29 => ?_) (fun h29 => ?_)
    · have h := if_t h h29
      refine v_iconst (pc := 117) hX dX5_hasRowsOnBothSides_117 ic_0 ?_
      obtain rfl := Option.some.inj h
      exact v_zret (pc := 118) hX hR (Or.inl rfl) dX5_hasRowsOnBothSides_118
    · have h := if_f h h29
      refine v_iconst (pc := 113) hX dX5_hasRowsOnBothSides_113 ic_1 ?_
      refine v_goto (pc := 114) (tgt := 118) hX dX5_hasRowsOnBothSides_114 (by decide) ?_
      obtain rfl := Option.some.inj h
      exact v_zret (pc := 118) hX hR (Or.inr rfl) dX5_hasRowsOnBothSides_118
set_option maxHeartbeats 4000000 in
set_option maxRecDepth 100000 in
theorem c_X5_isWhole {ad : Nat → Nat} {cs : List Nat} (hcs : ∀ k, 8 ≤ k → k < 95 → k ∈ cs) (M : Mm) (w2 : Int32) (q : Int32 × Mm) (h : fX5_isWhole M w2 = some q) : CT ad cs yX5_isWhole cX5_isWhole 6 (some .boolean) 2 49 [.ref (ad 92), .ref (ad 8), .int w2] M (some (.int q.1)) q.2 := by
  refine CT.of RX5 (by decide +kernel) rfl (Nat.le_of_ble_eq_true rfl) (fun X hX hR => ?_)
  unfold fX5_isWhole at h
  show VV X 6 ad cs M 0 [(0, .ref (ad 92)), (1, .ref (ad 8)), (2, .int w2)] []
  refine v_aload_n (pc := 0) 0 hX dX5_isWhole_0 rfl ?_
  refine v_aload_n (pc := 1) 1 hX dX5_isWhole_1 rfl ?_
  refine v_iload_n (pc := 2) 2 hX dX5_isWhole_2 rfl ?_
  obtain ⟨M2, h1, h⟩ := b1_e h
  refine v_callV (pc := 3) [.ref (ad 8), .int w2] none M2 hX cv_5_18 (c_X5_fill (sub_cs hcs (Nat.le_of_ble_eq_true rfl) (Nat.le_of_ble_eq_true rfl)) M w2 M2 h1) (hcs 92 (Nat.le_of_ble_eq_true rfl) (Nat.le_of_ble_eq_true rfl)) sh_92 rfl rfl rfl ⟨Nat.le_of_ble_eq_true rfl, Nat.le_of_ble_eq_true rfl⟩ (Nat.le_of_ble_eq_true rfl) dX5_isWhole_3 ?_
  show VV X 6 ad cs M2 6 [(0, .ref (ad 92)), (1, .ref (ad 8)), (2, .int w2)] []
  refine v_iconst (pc := 6) hX dX5_isWhole_6 ic_0 ?_
  refine v_istore_n (pc := 7) [(3, .int 0), (0, .ref (ad 92)), (1, .ref (ad 8)), (2, .int w2)] hX dX5_isWhole_7 (by decide) rfl ?_
  refine v_iconst (pc := 8) hX dX5_isWhole_8 ic_0 ?_
  refine v_istore (pc := 9) [(4, .int 0), (3, .int 0), (0, .ref (ad 92)), (1, .ref (ad 8)), (2, .int w2)] hX dX5_isWhole_9 (by decide) rfl ?_
  have L29 := v_itr (fX5_isWhole_L11) (fun z => VV X 6 ad cs z.2.2 11 [(0, .ref (ad 92)), (3, .int z.1), (4, .int z.2.1)] []) (Sum.elim (fun z => VV X 6 ad cs z 59 [] []) (fun z => VV X 6 ad cs z.2 73 [(3, .int z.1)] [])) (by
    rintro ⟨x3, x4, M5⟩ q h hK
    unfold fX5_isWhole_L11 at h
    have h := u3_b h
    show VV X 6 ad cs M5 11 [(0, .ref (ad 92)), (3, .int x3), (4, .int x4)] []
    refine v_iload (pc := 11) 2 hX dX5_isWhole_11 rfl ?_
    refine v_aload_n (pc := 13) 0 hX dX5_isWhole_13 rfl ?_
    refine v_getI (pc := 14) hX (hcs 92 (Nat.le_of_ble_eq_true rfl) (Nat.le_of_ble_eq_true rfl)) sh_92 fl_5_22 rfl dX5_isWhole_14 ?_
    refine v_icmp_ge (pc := 17) (tgt := 73) hX dX5_isWhole_17 (by decide) (fun h6 => ?_) (fun h6 => ?_)
    · have h := if_t h h6
      obtain rfl := Option.some.inj h
      exact v_sub [1] rfl hK
    · have h := if_f h h6
      refine v_iload (pc := 20) 2 hX dX5_isWhole_20 rfl ?_
      refine v_iconst (pc := 22) hX dX5_isWhole_22 ic_1 ?_
      refine v_iadd (pc := 23) hX dX5_isWhole_23 ?_
      obtain ⟨x7, ex7, h⟩ := bd_e h
      refine v_top ex7 ?_
      refine v_istore (pc := 24) [(5, .int x7), (0, .ref (ad 92)), (3, .int x3), (4, .int x4)] hX dX5_isWhole_24 (by decide) rfl ?_
      have L23 := v_itr (fX5_isWhole_L26 x4) (fun z => VV X 6 ad cs z.2.2 26 [(0, .ref (ad 92)), (3, .int z.1), (4, .int x4), (5, .int z.2.1)] []) (Sum.elim (fun z => VV X 6 ad cs z 59 [] []) (fun z => VV X 6 ad cs z.2 67 [(0, .ref (ad 92)), (3, .int z.1), (4, .int x4)] [])) (by
        rintro ⟨x8, x9, M10⟩ q h hK
        unfold fX5_isWhole_L26 at h
        have h := u3_b h
        show VV X 6 ad cs M10 26 [(0, .ref (ad 92)), (3, .int x8), (4, .int x4), (5, .int x9)] []
        refine v_iload (pc := 26) 3 hX dX5_isWhole_26 rfl ?_
        refine v_aload_n (pc := 28) 0 hX dX5_isWhole_28 rfl ?_
        refine v_getI (pc := 29) hX (hcs 92 (Nat.le_of_ble_eq_true rfl) (Nat.le_of_ble_eq_true rfl)) sh_92 fl_5_22 rfl dX5_isWhole_29 ?_
        refine v_icmp_ge (pc := 32) (tgt := 67) hX dX5_isWhole_32 (by decide) (fun h11 => ?_) (fun h11 => ?_)
        · have h := if_t h h11
          obtain rfl := Option.some.inj h
          exact v_sub [0, 1, 2] rfl hK
        · have h := if_f h h11
          refine v_aload_n (pc := 35) 0 hX dX5_isWhole_35 rfl ?_
          refine v_iconst (pc := 36) hX dX5_isWhole_36 ic_3 ?_
          refine v_iload (pc := 37) 2 hX dX5_isWhole_37 rfl ?_
          refine v_imul (pc := 39) hX dX5_isWhole_39 ?_
          refine v_iconst (pc := 40) hX dX5_isWhole_40 ic_3 ?_
          refine v_iload (pc := 41) 3 hX dX5_isWhole_41 rfl ?_
          refine v_imul (pc := 43) hX dX5_isWhole_43 ?_
          obtain ⟨x13, M14, h12, h⟩ := b2_e h
          refine v_callV (pc := 44) [.int (3 * x4), .int (3 * x9)] (some (.int x13)) M14 hX cv_5_26 (c_X5_findNormal (sub_cs hcs (Nat.le_of_ble_eq_true rfl) (Nat.le_of_ble_eq_true rfl)) M10 (3 * x4) (3 * x9) (x13, M14) h12) (hcs 92 (Nat.le_of_ble_eq_true rfl) (Nat.le_of_ble_eq_true rfl)) sh_92 rfl rfl rfl ⟨Nat.le_of_ble_eq_true rfl, Nat.le_of_ble_eq_true rfl⟩ (Nat.le_of_ble_eq_true rfl) dX5_isWhole_44 ?_
          show VV X 6 ad cs M14 47 [(0, .ref (ad 92)), (3, .int x8), (4, .int x4), (5, .int x9)] [.int x13]
          obtain ⟨k15, ek15, h⟩ := bd_e h
          have K16 : ∀ (x17 : Int32), k15 x17 = some q → VV X 6 ad cs M14 61 [(0, .ref (ad 92)), (3, .int x17), (4, .int x4), (5, .int x9)] [] := by
            intro x17 h
            subst ek15
            obtain ⟨x18, ex18, h⟩ := bd_e h
            refine v_iinc (v := x18) (pc := 61) 3 [(5, .int x18), (0, .ref (ad 92)), (3, .int x17), (4, .int x4)] hX dX5_isWhole_61 rfl (ex18.trans (by rw [ic_1])) (by decide) rfl ?_
            refine v_goto (pc := 64) (tgt := 26) hX dX5_isWhole_64 (by decide) ?_
            obtain rfl := Option.some.inj h
            exact v_sub [1, 2, 3, 0] rfl hK
          refine v_if_eq (pc := 47) (tgt := 61) hX dX5_isWhole_47 (by decide) (fun h19 => ?_) (fun h19 => ?_)
          · have h := if_t h h19
            exact v_sub [0, 1, 2, 3] rfl (K16 x8 h)
          · have h := if_f h h19
            refine v_iconst (pc := 50) hX dX5_isWhole_50 ic_1 ?_
            refine v_istore_n (pc := 51) [(3, .int 1), (0, .ref (ad 92)), (4, .int x4), (5, .int x9)] hX dX5_isWhole_51 (by decide) rfl ?_
            refine v_aload_n (pc := 52) 1 hX dX5_isWhole_52 rfl ?_
            obtain ⟨x21, h20, h⟩ := b1_e h
            refine v_callV (pc := 53) [] (some (.int x21)) M14 hX cv_5_30 (c_X5_hasRowsOnBothSides (sub_cs hcs (Nat.le_of_ble_eq_true rfl) (Nat.le_of_ble_eq_true rfl)) M14 x21 h20) (hcs 92 (Nat.le_of_ble_eq_true rfl) (Nat.le_of_ble_eq_true rfl)) sh_92 rfl rfl rfl ⟨Nat.le_of_ble_eq_true rfl, Nat.le_of_ble_eq_true rfl⟩ (Nat.le_of_ble_eq_true rfl) dX5_isWhole_53 ?_
            show VV X 6 ad cs M14 56 [(3, .int 1), (0, .ref (ad 92)), (4, .int x4), (5, .int x9)] [.int x21]
            refine v_if_ne (pc := 56) (tgt := 61) hX dX5_isWhole_56 (by decide) (fun h22 => ?_) (fun h22 => ?_)
            · have h := if_f h h22
              exact v_sub [1, 0, 2, 3] rfl (K16 1 h)
            · have h := if_t h h22
              obtain rfl := Option.some.inj h
              exact v_sub [] rfl hK
      )
      rcases bs_e h with ⟨M24, h28, h⟩ | ⟨⟨x25, M26⟩, h28, h⟩
      · refine v_sub [1, 2, 3, 0] rfl ?_
        refine L23 1000 _ _ h28 ?_
        show VV X 6 ad cs M24 59 [] []
        obtain rfl := Option.some.inj h
        exact v_sub [] rfl hK
      · refine v_sub [1, 2, 3, 0] rfl ?_
        refine L23 1000 _ _ h28 ?_
        have h := u2_b h
        show VV X 6 ad cs M26 67 [(0, .ref (ad 92)), (3, .int x25), (4, .int x4)] []
        obtain ⟨x27, ex27, h⟩ := bd_e h
        refine v_iinc (v := x27) (pc := 67) 2 [(4, .int x27), (0, .ref (ad 92)), (3, .int x25)] hX dX5_isWhole_67 rfl (ex27.trans (by rw [ic_1])) (by decide) rfl ?_
        refine v_goto (pc := 70) (tgt := 11) hX dX5_isWhole_70 (by decide) ?_
        obtain rfl := Option.some.inj h
        exact v_sub [1, 2, 0] rfl hK
  )
  rcases bs_e h with ⟨M30, h34, h⟩ | ⟨⟨x31, M32⟩, h34, h⟩
  · refine v_sub [2, 1, 0] rfl ?_
    refine L29 1000 _ _ h34 ?_
    show VV X 6 ad cs M30 59 [] []
    refine v_iconst (pc := 59) hX dX5_isWhole_59 ic_0 ?_
    obtain rfl := Option.some.inj h
    exact v_zret (pc := 60) hX hR (Or.inl rfl) dX5_isWhole_60
  · refine v_sub [2, 1, 0] rfl ?_
    refine L29 1000 _ _ h34 ?_
    have h := u2_b h
    show VV X 6 ad cs M32 73 [(3, .int x31)] []
    refine v_iload_n (pc := 73) 0 hX dX5_isWhole_73 rfl ?_
    obtain ⟨g33, h⟩ := gd_e h
    obtain rfl := Option.some.inj h
    exact v_zret (pc := 74) hX hR g33 dX5_isWhole_74
set_option maxHeartbeats 4000000 in
set_option maxRecDepth 100000 in
theorem c_X10_spans {ad : Nat → Nat} {cs : List Nat} (hcs : ∀ k, 0 ≤ k → k < 95 → k ∈ cs) (M : Mm) (q : Int32 × Mm) (h : fX10_spans M = some q) : CT ad cs yX10_spans cX10_spans 1 (some .int) 3 74 [.ref (ad 0)] M (some (.int q.1)) q.2 := by
  refine CT.of RX10 (by decide +kernel) rfl (Nat.le_of_ble_eq_true rfl) (fun X hX hR => ?_)
  unfold fX10_spans at h
  show VV X 1 ad cs M 0 [(0, .ref (ad 0))] []
  refine v_aload_n (pc := 0) 0 hX dX10_spans_0 rfl ?_
  refine v_getR (pc := 1) (t := 92) hX (hcs 0 (Nat.le_of_ble_eq_true rfl) (Nat.le_of_ble_eq_true rfl)) sh_0 fl_10_58 rfl dX10_spans_1 ?_
  refine v_aload_n (pc := 4) 0 hX dX10_spans_4 rfl ?_
  refine v_getR (pc := 5) (t := 1) hX (hcs 0 (Nat.le_of_ble_eq_true rfl) (Nat.le_of_ble_eq_true rfl)) sh_0 fl_10_10 rfl dX10_spans_5 ?_
  refine v_getR (pc := 8) (t := 8) hX (hcs 1 (Nat.le_of_ble_eq_true rfl) (Nat.le_of_ble_eq_true rfl)) sh_1 fl_10_125 rfl dX10_spans_8 ?_
  refine v_aload_n (pc := 11) 0 hX dX10_spans_11 rfl ?_
  refine v_getR (pc := 12) (t := 1) hX (hcs 0 (Nat.le_of_ble_eq_true rfl) (Nat.le_of_ble_eq_true rfl)) sh_0 fl_10_10 rfl dX10_spans_12 ?_
  refine v_getI (pc := 15) hX (hcs 1 (Nat.le_of_ble_eq_true rfl) (Nat.le_of_ble_eq_true rfl)) sh_1 fl_10_67 rfl dX10_spans_15 ?_
  obtain ⟨x2, M3, h1, h⟩ := b2_e h
  refine v_callV (pc := 18) [.ref (ad 8), .int (M.1 1 0)] (some (.int x2)) M3 hX cv_10_230 (c_X5_isWhole (sub_cs hcs (Nat.le_of_ble_eq_true rfl) (Nat.le_of_ble_eq_true rfl)) M (M.1 1 0) (x2, M3) h1) (hcs 92 (Nat.le_of_ble_eq_true rfl) (Nat.le_of_ble_eq_true rfl)) sh_92 rfl rfl rfl ⟨Nat.le_of_ble_eq_true rfl, Nat.le_of_ble_eq_true rfl⟩ (Nat.le_of_ble_eq_true rfl) dX10_spans_18 ?_
  show VV X 1 ad cs M3 21 [(0, .ref (ad 0))] [.int x2]
  obtain ⟨x5, h4, h⟩ := b1_e h
  refine v_callS (pc := 21) [.int x2] (some (.int x5)) M3 hX cv_10_121 (c_X10_oneIf M3 x2 x5 h4) rfl rfl ⟨Nat.le_of_ble_eq_true rfl, Nat.le_of_ble_eq_true rfl⟩ (Nat.le_of_ble_eq_true rfl) dX10_spans_21 ?_
  show VV X 1 ad cs M3 24 [(0, .ref (ad 0))] [.int x5]
  obtain rfl := Option.some.inj h
  exact v_iret (pc := 24) hX hR dX10_spans_24
set_option maxHeartbeats 4000000 in
set_option maxRecDepth 100000 in
theorem c_X9_noneIsBetter {ad : Nat → Nat} {cs : List Nat} (hcs : ∀ k, 86 ≤ k → k < 90 → k ∈ cs) (M : Mm) (q : Int32) (h : fX9_noneIsBetter M = some q) : CT ad cs yX9_noneIsBetter cX9_noneIsBetter 2 (some .boolean) 1 21 [.ref (ad 86)] M (some (.int q)) M := by
  refine CT.of RX9 (by decide +kernel) rfl (Nat.le_of_ble_eq_true rfl) (fun X hX hR => ?_)
  unfold fX9_noneIsBetter at h
  show VV X 2 ad cs M 0 [(0, .ref (ad 86))] []
  refine v_iconst (pc := 0) hX dX9_noneIsBetter_0 ic_0 ?_
  refine v_istore_n (pc := 1) [(1, .int 0), (0, .ref (ad 86))] hX dX9_noneIsBetter_1 (by decide) rfl ?_
  have L7 := v_itr (fX9_noneIsBetter_L2 M) (fun z => VV X 2 ad cs M 2 [(0, .ref (ad 86)), (1, .int z)] []) (Sum.elim (fun z => VV X 2 ad cs M 18 [] []) (fun z => VV X 2 ad cs M 26 [] [])) (by
    rintro x1 q h hK
    unfold fX9_noneIsBetter_L2 at h
    show VV X 2 ad cs M 2 [(0, .ref (ad 86)), (1, .int x1)] []
    refine v_iload_n (pc := 2) 1 hX dX9_noneIsBetter_2 rfl ?_
    refine v_aload_n (pc := 3) 0 hX dX9_noneIsBetter_3 rfl ?_
    refine v_getI (pc := 4) hX (hcs 86 (Nat.le_of_ble_eq_true rfl) (Nat.le_of_ble_eq_true rfl)) sh_86 fl_9_22 rfl dX9_noneIsBetter_4 ?_
    refine v_icmp_ge (pc := 7) (tgt := 26) hX dX9_noneIsBetter_7 (by decide) (fun h2 => ?_) (fun h2 => ?_)
    · have h := if_t h h2
      obtain rfl := Option.some.inj h
      exact v_sub [] rfl hK
    · have h := if_f h h2
      refine v_aload_n (pc := 10) 0 hX dX9_noneIsBetter_10 rfl ?_
      refine v_iload_n (pc := 11) 1 hX dX9_noneIsBetter_11 rfl ?_
      obtain ⟨x4, h3, h⟩ := b1_e h
      refine v_callV (pc := 12) [.int x1] (some (.int x4)) M hX cv_9_72 (c_X9_isBetter (sub_cs hcs (Nat.le_of_ble_eq_true rfl) (Nat.le_of_ble_eq_true rfl)) M x1 x4 h3) (hcs 86 (Nat.le_of_ble_eq_true rfl) (Nat.le_of_ble_eq_true rfl)) sh_86 rfl rfl rfl ⟨Nat.le_of_ble_eq_true rfl, Nat.le_of_ble_eq_true rfl⟩ (Nat.le_of_ble_eq_true rfl) dX9_noneIsBetter_12 ?_
      show VV X 2 ad cs M 15 [(0, .ref (ad 86)), (1, .int x1)] [.int x4]
      refine v_if_eq (pc := 15) (tgt := 20) hX dX9_noneIsBetter_15 (by decide) (fun h5 => ?_) (fun h5 => ?_)
      · have h := if_t h h5
        obtain ⟨x6, ex6, h⟩ := bd_e h
        refine v_iinc (v := x6) (pc := 20) 1 [(1, .int x6), (0, .ref (ad 86))] hX dX9_noneIsBetter_20 rfl (ex6.trans (by rw [ic_1])) (by decide) rfl ?_
        refine v_goto (pc := 23) (tgt := 2) hX dX9_noneIsBetter_23 (by decide) ?_
        obtain rfl := Option.some.inj h
        exact v_sub [1, 0] rfl hK
      · have h := if_f h h5
        obtain rfl := Option.some.inj h
        exact v_sub [] rfl hK
  )
  rcases bs_e h with ⟨_, h8, h⟩ | ⟨_, h8, h⟩
  · refine v_sub [1, 0] rfl ?_
    refine L7 1000 _ _ h8 ?_
    show VV X 2 ad cs M 18 [] []
    refine v_iconst (pc := 18) hX dX9_noneIsBetter_18 ic_0 ?_
    obtain rfl := Option.some.inj h
    exact v_zret (pc := 19) hX hR (Or.inl rfl) dX9_noneIsBetter_19
  · refine v_sub [1, 0] rfl ?_
    refine L7 1000 _ _ h8 ?_
    show VV X 2 ad cs M 26 [] []
    refine v_iconst (pc := 26) hX dX9_noneIsBetter_26 ic_1 ?_
    obtain rfl := Option.some.inj h
    exact v_zret (pc := 27) hX hR (Or.inr rfl) dX9_noneIsBetter_27
set_option maxHeartbeats 4000000 in
set_option maxRecDepth 100000 in
theorem c_X10_stuck {ad : Nat → Nat} {cs : List Nat} (hcs : ∀ k, 0 ≤ k → k < 90 → k ∈ cs) (M : Mm) (w1 : Int32) (q : Int32 × Mm) (h : fX10_stuck M w1 = some q) : CT ad cs yX10_stuck cX10_stuck 2 (some .int) 4 103 [.ref (ad 0), .int w1] M (some (.int q.1)) q.2 := by
  refine CT.of RX10 (by decide +kernel) rfl (Nat.le_of_ble_eq_true rfl) (fun X hX hR => ?_)
  unfold fX10_stuck at h
  show VV X 2 ad cs M 0 [(0, .ref (ad 0)), (1, .int w1)] []
  refine v_iload_n (pc := 0) 1 hX dX10_stuck_0 rfl ?_
  refine v_iconst (pc := 1) hX dX10_stuck_1 ic_0 ?_
  refine v_iconst (pc := 2) hX dX10_stuck_2 ic_4 ?_
  obtain ⟨x2, h1, h⟩ := b1_e h
  refine v_callS (pc := 3) [.int w1, .int 0, .int 4] (some (.int x2)) M hX cv_10_62 (c_X10_within M w1 0 4 x2 h1) rfl rfl ⟨Nat.le_of_ble_eq_true rfl, Nat.le_of_ble_eq_true rfl⟩ (Nat.le_of_ble_eq_true rfl) dX10_stuck_3 ?_
  show VV X 2 ad cs M 6 [(0, .ref (ad 0)), (1, .int w1)] [.int x2]
  refine v_if_ne (pc := 6) (tgt := 12) hX dX10_stuck_6 (by decide) (fun h3 => ?_) (fun h3 => ?_)
  · have h := if_f h h3
    refine v_aload_n (pc := 12) 0 hX dX10_stuck_12 rfl ?_
    refine v_getR (pc := 13) (t := 1) hX (hcs 0 (Nat.le_of_ble_eq_true rfl) (Nat.le_of_ble_eq_true rfl)) sh_0 fl_10_10 rfl dX10_stuck_13 ?_
    obtain ⟨x5, h4, h⟩ := b1_e h
    refine v_callV (pc := 16) [] (some (.int x5)) M hX cv_10_117 (c_X6_placeIsAllowed (sub_cs hcs (Nat.le_of_ble_eq_true rfl) (Nat.le_of_ble_eq_true rfl)) M x5 h4) (hcs 1 (Nat.le_of_ble_eq_true rfl) (Nat.le_of_ble_eq_true rfl)) sh_1 rfl rfl rfl ⟨Nat.le_of_ble_eq_true rfl, Nat.le_of_ble_eq_true rfl⟩ (Nat.le_of_ble_eq_true rfl) dX10_stuck_16 ?_
    show VV X 2 ad cs M 19 [(0, .ref (ad 0)), (1, .int w1)] [.int x5]
    refine v_if_ne (pc := 19) (tgt := 25) hX dX10_stuck_19 (by decide) (fun h6 => ?_) (fun h6 => ?_)
    · have h := if_f h h6
      refine v_aload_n (pc := 25) 0 hX dX10_stuck_25 rfl ?_
      refine v_getR (pc := 26) (t := 86) hX (hcs 0 (Nat.le_of_ble_eq_true rfl) (Nat.le_of_ble_eq_true rfl)) sh_0 fl_10_44 rfl dX10_stuck_26 ?_
      refine v_aload_n (pc := 29) 0 hX dX10_stuck_29 rfl ?_
      refine v_getR (pc := 30) (t := 1) hX (hcs 0 (Nat.le_of_ble_eq_true rfl) (Nat.le_of_ble_eq_true rfl)) sh_0 fl_10_10 rfl dX10_stuck_30 ?_
      refine v_iconst (pc := 33) hX dX10_stuck_33 ic_1 ?_
      refine v_iload_n (pc := 34) 1 hX dX10_stuck_34 rfl ?_
      refine v_ishl (pc := 35) hX dX10_stuck_35 ?_
      obtain ⟨M8, h7, h⟩ := b1_e h
      refine v_callV (pc := 36) [.ref (ad 1), .int (1 <<< (w1 &&& 31))] none M8 hX cv_10_220 (c_X9_gather (sub_cs hcs (Nat.le_of_ble_eq_true rfl) (Nat.le_of_ble_eq_true rfl)) M (1 <<< (w1 &&& 31)) M8 h7) (hcs 86 (Nat.le_of_ble_eq_true rfl) (Nat.le_of_ble_eq_true rfl)) sh_86 rfl rfl rfl ⟨Nat.le_of_ble_eq_true rfl, Nat.le_of_ble_eq_true rfl⟩ (Nat.le_of_ble_eq_true rfl) dX10_stuck_36 ?_
      show VV X 2 ad cs M8 39 [(0, .ref (ad 0)), (1, .int w1)] []
      refine v_aload_n (pc := 39) 0 hX dX10_stuck_39 rfl ?_
      refine v_getR (pc := 40) (t := 86) hX (hcs 0 (Nat.le_of_ble_eq_true rfl) (Nat.le_of_ble_eq_true rfl)) sh_0 fl_10_44 rfl dX10_stuck_40 ?_
      obtain ⟨x10, h9, h⟩ := b1_e h
      refine v_callV (pc := 43) [] (some (.int x10)) M8 hX cv_10_234 (c_X9_noneIsBetter (sub_cs hcs (Nat.le_of_ble_eq_true rfl) (Nat.le_of_ble_eq_true rfl)) M8 x10 h9) (hcs 86 (Nat.le_of_ble_eq_true rfl) (Nat.le_of_ble_eq_true rfl)) sh_86 rfl rfl rfl ⟨Nat.le_of_ble_eq_true rfl, Nat.le_of_ble_eq_true rfl⟩ (Nat.le_of_ble_eq_true rfl) dX10_stuck_43 ?_
      show VV X 2 ad cs M8 46 [(0, .ref (ad 0)), (1, .int w1)] [.int x10]
      obtain ⟨x12, h11, h⟩ := b1_e h
      refine v_callS (pc := 46) [.int x10] (some (.int x12)) M8 hX cv_10_121 (c_X10_oneIf M8 x10 x12 h11) rfl rfl ⟨Nat.le_of_ble_eq_true rfl, Nat.le_of_ble_eq_true rfl⟩ (Nat.le_of_ble_eq_true rfl) dX10_stuck_46 ?_
      show VV X 2 ad cs M8 49 [(0, .ref (ad 0)), (1, .int w1)] [.int x12]
      obtain rfl := Option.some.inj h
      exact v_iret (pc := 49) hX hR dX10_stuck_49
    · have h := if_t h h6
      refine v_ldc (pc := 22) hX kc_10_93 dX10_stuck_22 ?_
      obtain rfl := Option.some.inj h
      exact v_iret (pc := 24) hX hR dX10_stuck_24
  · have h := if_t h h3
    refine v_ldc (pc := 9) hX kc_10_66 dX10_stuck_9 ?_
    obtain rfl := Option.some.inj h
    exact v_iret (pc := 11) hX hR dX10_stuck_11
set_option maxHeartbeats 4000000 in
set_option maxRecDepth 100000 in
theorem c_X3_consider {ad : Nat → Nat} {cs : List Nat} (hcs : ∀ k, 1 ≤ k → k < 92 → k ∈ cs) (M : Mm) (w2 : Int32) (w3 : Int32) (w4 : Int32) (q : Mm) (h : fX3_consider M w2 w3 w4 = some q) : CT ad cs yX3_consider cX3_consider 11 none 2 53 [.ref (ad 90), .ref (ad 1), .int w2, .int w3, .int w4] M none q := by
  refine CT.of RX3 (by decide +kernel) rfl (Nat.le_of_ble_eq_true rfl) (fun X hX hR => ?_)
  unfold fX3_consider at h
  show VV X 11 ad cs M 0 [(0, .ref (ad 90)), (1, .ref (ad 1)), (2, .int w2), (3, .int w3), (4, .int w4)] []
  refine v_aload_n (pc := 0) 1 hX dX3_consider_0 rfl ?_
  refine v_getR (pc := 1) (t := 11) hX (hcs 1 (Nat.le_of_ble_eq_true rfl) (Nat.le_of_ble_eq_true rfl)) sh_1 fl_3_31 rfl dX3_consider_1 ?_
  refine v_astore (pc := 4) [(5, .ref (ad 11)), (0, .ref (ad 90)), (1, .ref (ad 1)), (2, .int w2), (3, .int w3), (4, .int w4)] hX dX3_consider_4 (by decide) rfl ?_
  refine v_aload (pc := 6) 0 hX dX3_consider_6 rfl ?_
  refine v_getR (pc := 8) (t := 12) hX (hcs 11 (Nat.le_of_ble_eq_true rfl) (Nat.le_of_ble_eq_true rfl)) sh_11 fl_3_35 rfl dX3_consider_8 ?_
  refine v_iconst (pc := 11) hX dX3_consider_11 ic_0 ?_
  refine v_iald (pc := 12) hX (hcs 12 (Nat.le_of_ble_eq_true rfl) (Nat.le_of_ble_eq_true rfl)) sh_12 (ib_0 (by decide)) ix_0 dX3_consider_12 ?_
  refine v_iload_n (pc := 13) 3 hX dX3_consider_13 rfl ?_
  refine v_aload (pc := 14) 0 hX dX3_consider_14 rfl ?_
  refine v_getI (pc := 16) hX (hcs 11 (Nat.le_of_ble_eq_true rfl) (Nat.le_of_ble_eq_true rfl)) sh_11 fl_3_40 rfl dX3_consider_16 ?_
  refine v_imul (pc := 19) hX dX3_consider_19 ?_
  refine v_iadd (pc := 20) hX dX3_consider_20 ?_
  obtain ⟨x1, ex1, h⟩ := bd_e h
  refine v_top ex1 ?_
  refine v_istore (pc := 21) [(6, .int x1), (5, .ref (ad 11)), (0, .ref (ad 90)), (1, .ref (ad 1)), (2, .int w2), (3, .int w3), (4, .int w4)] hX dX3_consider_21 (by decide) rfl ?_
  refine v_aload (pc := 23) 1 hX dX3_consider_23 rfl ?_
  refine v_getR (pc := 25) (t := 12) hX (hcs 11 (Nat.le_of_ble_eq_true rfl) (Nat.le_of_ble_eq_true rfl)) sh_11 fl_3_35 rfl dX3_consider_25 ?_
  refine v_iconst (pc := 28) hX dX3_consider_28 ic_1 ?_
  refine v_iald (pc := 29) hX (hcs 12 (Nat.le_of_ble_eq_true rfl) (Nat.le_of_ble_eq_true rfl)) sh_12 (ib_1 (by decide)) ix_1 dX3_consider_29 ?_
  refine v_iload_n (pc := 30) 5 hX dX3_consider_30 rfl ?_
  refine v_aload (pc := 31) 1 hX dX3_consider_31 rfl ?_
  refine v_getI (pc := 33) hX (hcs 11 (Nat.le_of_ble_eq_true rfl) (Nat.le_of_ble_eq_true rfl)) sh_11 fl_3_40 rfl dX3_consider_33 ?_
  refine v_imul (pc := 36) hX dX3_consider_36 ?_
  refine v_iadd (pc := 37) hX dX3_consider_37 ?_
  obtain ⟨x2, ex2, h⟩ := bd_e h
  refine v_top ex2 ?_
  refine v_istore (pc := 38) [(7, .int x2), (6, .int x1), (5, .ref (ad 11)), (0, .ref (ad 90)), (1, .ref (ad 1)), (2, .int w2), (3, .int w3), (4, .int w4)] hX dX3_consider_38 (by decide) rfl ?_
  refine v_aload (pc := 40) 2 hX dX3_consider_40 rfl ?_
  refine v_getR (pc := 42) (t := 12) hX (hcs 11 (Nat.le_of_ble_eq_true rfl) (Nat.le_of_ble_eq_true rfl)) sh_11 fl_3_35 rfl dX3_consider_42 ?_
  refine v_iconst (pc := 45) hX dX3_consider_45 ic_2 ?_
  refine v_iald (pc := 46) hX (hcs 12 (Nat.le_of_ble_eq_true rfl) (Nat.le_of_ble_eq_true rfl)) sh_12 (ib_2 (by decide)) ix_2 dX3_consider_46 ?_
  refine v_iload (pc := 47) 7 hX dX3_consider_47 rfl ?_
  refine v_aload (pc := 49) 2 hX dX3_consider_49 rfl ?_
  refine v_getI (pc := 51) hX (hcs 11 (Nat.le_of_ble_eq_true rfl) (Nat.le_of_ble_eq_true rfl)) sh_11 fl_3_40 rfl dX3_consider_51 ?_
  refine v_imul (pc := 54) hX dX3_consider_54 ?_
  refine v_iadd (pc := 55) hX dX3_consider_55 ?_
  obtain ⟨x3, ex3, h⟩ := bd_e h
  refine v_top ex3 ?_
  refine v_istore (pc := 56) [(8, .int x3), (7, .int x2), (6, .int x1), (5, .ref (ad 11)), (0, .ref (ad 90)), (1, .ref (ad 1)), (2, .int w2), (3, .int w3), (4, .int w4)] hX dX3_consider_56 (by decide) rfl ?_
  refine v_aload_n (pc := 58) 5 hX dX3_consider_58 rfl ?_
  refine v_getR (pc := 59) (t := 5) hX (hcs 1 (Nat.le_of_ble_eq_true rfl) (Nat.le_of_ble_eq_true rfl)) sh_1 fl_3_43 rfl dX3_consider_59 ?_
  refine v_iload (pc := 62) 2 hX dX3_consider_62 rfl ?_
  refine v_iload (pc := 64) 1 hX dX3_consider_64 rfl ?_
  refine v_iload (pc := 66) 0 hX dX3_consider_66 rfl ?_
  obtain ⟨x5, h4, h⟩ := b1_e h
  refine v_callV (pc := 68) [.int x1, .int x2, .int x3] (some (.int x5)) M hX cv_3_47 (c_X0_allow (sub_cs hcs (Nat.le_of_ble_eq_true rfl) (Nat.le_of_ble_eq_true rfl)) M x1 x2 x3 x5 h4) (hcs 5 (Nat.le_of_ble_eq_true rfl) (Nat.le_of_ble_eq_true rfl)) sh_5 rfl rfl rfl ⟨Nat.le_of_ble_eq_true rfl, Nat.le_of_ble_eq_true rfl⟩ (Nat.le_of_ble_eq_true rfl) dX3_consider_68 ?_
  show VV X 11 ad cs M 71 [(8, .int x3), (7, .int x2), (6, .int x1), (5, .ref (ad 11)), (0, .ref (ad 90)), (1, .ref (ad 1)), (2, .int w2), (3, .int w3), (4, .int w4)] [.int x5]
  refine v_if_ne (pc := 71) (tgt := 75) hX dX3_consider_71 (by decide) (fun h6 => ?_) (fun h6 => ?_)
  · have h := if_f h h6
    refine v_aload_n (pc := 75) 5 hX dX3_consider_75 rfl ?_
    refine v_getR (pc := 76) (t := 2) hX (hcs 1 (Nat.le_of_ble_eq_true rfl) (Nat.le_of_ble_eq_true rfl)) sh_1 fl_3_53 rfl dX3_consider_76 ?_
    refine v_iload (pc := 79) 2 hX dX3_consider_79 rfl ?_
    refine v_iload (pc := 81) 1 hX dX3_consider_81 rfl ?_
    refine v_iload (pc := 83) 0 hX dX3_consider_83 rfl ?_
    refine v_iconst (pc := 85) hX dX3_consider_85 ic_4 ?_
    obtain ⟨y8, h7, h⟩ := b1_e h
    refine v_callV (pc := 86) [.int x1, .int x2, .int x3, .int 4] (some (.long y8)) M hX cv_3_57 (c_X7_sumAt (sub_cs hcs (Nat.le_of_ble_eq_true rfl) (Nat.le_of_ble_eq_true rfl)) M x1 x2 x3 4 y8 h7) (hcs 2 (Nat.le_of_ble_eq_true rfl) (Nat.le_of_ble_eq_true rfl)) sh_2 rfl rfl rfl ⟨Nat.le_of_ble_eq_true rfl, Nat.le_of_ble_eq_true rfl⟩ (Nat.le_of_ble_eq_true rfl) dX3_consider_86 ?_
    show VV X 11 ad cs M 89 [(8, .int x3), (7, .int x2), (6, .int x1), (5, .ref (ad 11)), (0, .ref (ad 90)), (1, .ref (ad 1)), (2, .int w2), (3, .int w3), (4, .int w4)] [.long y8]
    refine v_lstore (pc := 89) [(9, .long y8), (8, .int x3), (7, .int x2), (6, .int x1), (5, .ref (ad 11)), (0, .ref (ad 90)), (1, .ref (ad 1)), (2, .int w2), (3, .int w3), (4, .int w4)] hX dX3_consider_89 (by decide) rfl ?_
    refine v_lload (pc := 91) 0 hX dX3_consider_91 rfl ?_
    refine v_aload_n (pc := 93) 5 hX dX3_consider_93 rfl ?_
    refine v_getL (pc := 94) hX (hcs 90 (Nat.le_of_ble_eq_true rfl) (Nat.le_of_ble_eq_true rfl)) sh_90 fl_3_23 rfl dX3_consider_94 ?_
    refine v_lcmp (pc := 97) hX dX3_consider_97 ?_
    refine v_if_ge (pc := 98) (tgt := 131) hX dX3_consider_98 (by decide) (fun h9 => ?_) (fun h9 => ?_)
    · have h := if_t h h9
      obtain rfl := Option.some.inj h
      exact v_vret (pc := 131) hX hR dX3_consider_131
    · have h := if_f h h9
      refine v_aload_n (pc := 101) 5 hX dX3_consider_101 rfl ?_
      refine v_lload (pc := 102) 0 hX dX3_consider_102 rfl ?_
      obtain ⟨M10, eM10, h⟩ := bd_e h
      refine v_putL (pc := 104) hX (hcs 90 (Nat.le_of_ble_eq_true rfl) (Nat.le_of_ble_eq_true rfl)) sh_90 pl_3_23 rfl dX3_consider_104 eM10 ?_
      refine v_aload_n (pc := 107) 5 hX dX3_consider_107 rfl ?_
      refine v_getR (pc := 108) (t := 91) hX (hcs 90 (Nat.le_of_ble_eq_true rfl) (Nat.le_of_ble_eq_true rfl)) sh_90 fl_3_9 rfl dX3_consider_108 ?_
      refine v_iconst (pc := 111) hX dX3_consider_111 ic_0 ?_
      refine v_iload (pc := 112) 3 hX dX3_consider_112 rfl ?_
      obtain ⟨M11, eM11, h⟩ := bd_e h
      refine v_iast (pc := 114) hX (hcs 91 (Nat.le_of_ble_eq_true rfl) (Nat.le_of_ble_eq_true rfl)) sh_91 (ib_0 (by decide)) ix_0 dX3_consider_114 eM11 ?_
      refine v_aload_n (pc := 115) 5 hX dX3_consider_115 rfl ?_
      refine v_getR (pc := 116) (t := 91) hX (hcs 90 (Nat.le_of_ble_eq_true rfl) (Nat.le_of_ble_eq_true rfl)) sh_90 fl_3_9 rfl dX3_consider_116 ?_
      refine v_iconst (pc := 119) hX dX3_consider_119 ic_1 ?_
      refine v_iload (pc := 120) 2 hX dX3_consider_120 rfl ?_
      obtain ⟨M12, eM12, h⟩ := bd_e h
      refine v_iast (pc := 122) hX (hcs 91 (Nat.le_of_ble_eq_true rfl) (Nat.le_of_ble_eq_true rfl)) sh_91 (ib_1 (by decide)) ix_1 dX3_consider_122 eM12 ?_
      refine v_aload_n (pc := 123) 5 hX dX3_consider_123 rfl ?_
      refine v_getR (pc := 124) (t := 91) hX (hcs 90 (Nat.le_of_ble_eq_true rfl) (Nat.le_of_ble_eq_true rfl)) sh_90 fl_3_9 rfl dX3_consider_124 ?_
      refine v_iconst (pc := 127) hX dX3_consider_127 ic_2 ?_
      refine v_iload (pc := 128) 1 hX dX3_consider_128 rfl ?_
      obtain ⟨M13, eM13, h⟩ := bd_e h
      refine v_iast (pc := 130) hX (hcs 91 (Nat.le_of_ble_eq_true rfl) (Nat.le_of_ble_eq_true rfl)) sh_91 (ib_2 (by decide)) ix_2 dX3_consider_130 eM13 ?_
      obtain rfl := Option.some.inj h
      exact v_vret (pc := 131) hX hR dX3_consider_131
  · have h := if_t h h6
    obtain rfl := Option.some.inj h
    exact v_vret (pc := 74) hX hR dX3_consider_74
set_option maxHeartbeats 4000000 in
set_option maxRecDepth 100000 in
theorem c_X3_findBest {ad : Nat → Nat} {cs : List Nat} (hcs : ∀ k, 1 ≤ k → k < 92 → k ∈ cs) (M : Mm) (w2 : Int32) (q : Mm) (h : fX3_findBest M w2 = some q) : CT ad cs yX3_findBest cX3_findBest 8 none 3 83 [.ref (ad 90), .ref (ad 1), .int w2] M none q := by
  refine CT.of RX3 (by decide +kernel) rfl (Nat.le_of_ble_eq_true rfl) (fun X hX hR => ?_)
  unfold fX3_findBest at h
  show VV X 8 ad cs M 0 [(0, .ref (ad 90)), (1, .ref (ad 1)), (2, .int w2)] []
  refine v_aload_n (pc := 0) 1 hX dX3_findBest_0 rfl ?_
  refine v_getI (pc := 1) hX (hcs 1 (Nat.le_of_ble_eq_true rfl) (Nat.le_of_ble_eq_true rfl)) sh_1 fl_3_15 rfl dX3_findBest_1 ?_
  refine v_iconst (pc := 4) hX dX3_findBest_4 ic_1 ?_
  obtain ⟨k1, ek1, h⟩ := bd_e h
  have K2 : ∀ (x3 : Int32), k1 x3 = some q → VV X 8 ad cs M 13 [(0, .ref (ad 90)), (1, .ref (ad 1)), (2, .int w2)] [.int x3] := by
    intro x3 h
    subst ek1
    refine v_istore_n (pc := 13) [(3, .int x3), (0, .ref (ad 90)), (1, .ref (ad 1)), (2, .int w2)] hX dX3_findBest_13 (by decide) rfl ?_
    refine v_aload_n (pc := 14) 2 hX dX3_findBest_14 rfl ?_
    refine v_getI (pc := 15) hX (hcs 1 (Nat.le_of_ble_eq_true rfl) (Nat.le_of_ble_eq_true rfl)) sh_1 fl_3_15 rfl dX3_findBest_15 ?_
    refine v_iconst (pc := 18) hX dX3_findBest_18 ic_2 ?_
    obtain ⟨k4, ek4, h⟩ := bd_e h
    have K5 : ∀ (x6 : Int32), k4 x6 = some q → VV X 8 ad cs M 27 [(0, .ref (ad 90)), (1, .ref (ad 1)), (2, .int w2), (3, .int x3)] [.int x6] := by
      intro x6 h
      subst ek4
      refine v_istore (pc := 27) [(4, .int x6), (0, .ref (ad 90)), (1, .ref (ad 1)), (2, .int w2), (3, .int x3)] hX dX3_findBest_27 (by decide) rfl ?_
      refine v_aload_n (pc := 29) 1 hX dX3_findBest_29 rfl ?_
      refine v_ldc2 (pc := 30) hX kc_3_21 dX3_findBest_30 ?_
      obtain ⟨M7, eM7, h⟩ := bd_e h
      refine v_putL (pc := 33) hX (hcs 90 (Nat.le_of_ble_eq_true rfl) (Nat.le_of_ble_eq_true rfl)) sh_90 pl_3_23 rfl dX3_findBest_33 eM7 ?_
      refine v_iload_n (pc := 36) 3 hX dX3_findBest_36 rfl ?_
      refine v_ineg (pc := 37) hX dX3_findBest_37 ?_
      obtain ⟨x8, ex8, h⟩ := bd_e h
      refine v_top ex8 ?_
      refine v_istore (pc := 38) [(5, .int x8), (4, .int x6), (0, .ref (ad 90)), (1, .ref (ad 1)), (2, .int w2), (3, .int x3)] hX dX3_findBest_38 (by decide) rfl ?_
      have L31 := v_itr (fX3_findBest_L40 w2 x3 x6) (fun z => VV X 8 ad cs z.2 40 [(0, .ref (ad 90)), (1, .ref (ad 1)), (2, .int w2), (3, .int x3), (4, .int x6), (5, .int z.1)] []) (fun z => VV X 8 ad cs z 97 [] []) (by
        rintro ⟨x9, M10⟩ q h hK
        unfold fX3_findBest_L40 at h
        have h := u2_b h
        show VV X 8 ad cs M10 40 [(0, .ref (ad 90)), (1, .ref (ad 1)), (2, .int w2), (3, .int x3), (4, .int x6), (5, .int x9)] []
        refine v_iload (pc := 40) 5 hX dX3_findBest_40 rfl ?_
        refine v_iload_n (pc := 42) 2 hX dX3_findBest_42 rfl ?_
        refine v_icmp_gt (pc := 43) (tgt := 97) hX dX3_findBest_43 (by decide) (fun h11 => ?_) (fun h11 => ?_)
        · have h := if_t h h11
          obtain rfl := Option.some.inj h
          exact v_sub [] rfl hK
        · have h := if_f h h11
          refine v_iload_n (pc := 46) 3 hX dX3_findBest_46 rfl ?_
          refine v_ineg (pc := 47) hX dX3_findBest_47 ?_
          obtain ⟨x12, ex12, h⟩ := bd_e h
          refine v_top ex12 ?_
          refine v_istore (pc := 48) [(6, .int x12), (0, .ref (ad 90)), (1, .ref (ad 1)), (2, .int w2), (3, .int x3), (4, .int x6), (5, .int x9)] hX dX3_findBest_48 (by decide) rfl ?_
          have L27 := v_itr (fX3_findBest_L50 x3 x6 x9) (fun z => VV X 8 ad cs z.2 50 [(0, .ref (ad 90)), (1, .ref (ad 1)), (2, .int w2), (3, .int x3), (4, .int x6), (5, .int x9), (6, .int z.1)] []) (fun z => VV X 8 ad cs z 91 [(0, .ref (ad 90)), (1, .ref (ad 1)), (2, .int w2), (3, .int x3), (4, .int x6), (5, .int x9)] []) (by
            rintro ⟨x13, M14⟩ q h hK
            unfold fX3_findBest_L50 at h
            have h := u2_b h
            show VV X 8 ad cs M14 50 [(0, .ref (ad 90)), (1, .ref (ad 1)), (2, .int w2), (3, .int x3), (4, .int x6), (5, .int x9), (6, .int x13)] []
            refine v_iload (pc := 50) 6 hX dX3_findBest_50 rfl ?_
            refine v_iload_n (pc := 52) 3 hX dX3_findBest_52 rfl ?_
            refine v_icmp_gt (pc := 53) (tgt := 91) hX dX3_findBest_53 (by decide) (fun h15 => ?_) (fun h15 => ?_)
            · have h := if_t h h15
              obtain rfl := Option.some.inj h
              exact v_sub [0, 1, 2, 3, 4, 5] rfl hK
            · have h := if_f h h15
              refine v_iload (pc := 56) 4 hX dX3_findBest_56 rfl ?_
              refine v_ineg (pc := 58) hX dX3_findBest_58 ?_
              obtain ⟨x16, ex16, h⟩ := bd_e h
              refine v_top ex16 ?_
              refine v_istore (pc := 59) [(7, .int x16), (0, .ref (ad 90)), (1, .ref (ad 1)), (2, .int w2), (3, .int x3), (4, .int x6), (5, .int x9), (6, .int x13)] hX dX3_findBest_59 (by decide) rfl ?_
              have L23 := v_itr (fX3_findBest_L61 x6 x9 x13) (fun z => VV X 8 ad cs z.2 61 [(0, .ref (ad 90)), (1, .ref (ad 1)), (2, .int w2), (3, .int x3), (4, .int x6), (5, .int x9), (6, .int x13), (7, .int z.1)] []) (fun z => VV X 8 ad cs z 85 [(0, .ref (ad 90)), (1, .ref (ad 1)), (2, .int w2), (3, .int x3), (4, .int x6), (5, .int x9), (6, .int x13)] []) (by
                rintro ⟨x17, M18⟩ q h hK
                unfold fX3_findBest_L61 at h
                have h := u2_b h
                show VV X 8 ad cs M18 61 [(0, .ref (ad 90)), (1, .ref (ad 1)), (2, .int w2), (3, .int x3), (4, .int x6), (5, .int x9), (6, .int x13), (7, .int x17)] []
                refine v_iload (pc := 61) 7 hX dX3_findBest_61 rfl ?_
                refine v_iload (pc := 63) 4 hX dX3_findBest_63 rfl ?_
                refine v_icmp_gt (pc := 65) (tgt := 85) hX dX3_findBest_65 (by decide) (fun h19 => ?_) (fun h19 => ?_)
                · have h := if_t h h19
                  obtain rfl := Option.some.inj h
                  exact v_sub [0, 1, 2, 3, 4, 5, 6] rfl hK
                · have h := if_f h h19
                  refine v_aload_n (pc := 68) 0 hX dX3_findBest_68 rfl ?_
                  refine v_aload_n (pc := 69) 1 hX dX3_findBest_69 rfl ?_
                  refine v_iload (pc := 70) 5 hX dX3_findBest_70 rfl ?_
                  refine v_iload (pc := 72) 6 hX dX3_findBest_72 rfl ?_
                  refine v_iload (pc := 74) 7 hX dX3_findBest_74 rfl ?_
                  obtain ⟨M21, h20, h⟩ := b1_e h
                  refine v_callV (pc := 76) [.ref (ad 1), .int x9, .int x13, .int x17] none M21 hX cv_3_27 (c_X3_consider (sub_cs hcs (Nat.le_of_ble_eq_true rfl) (Nat.le_of_ble_eq_true rfl)) M18 x9 x13 x17 M21 h20) (hcs 90 (Nat.le_of_ble_eq_true rfl) (Nat.le_of_ble_eq_true rfl)) sh_90 rfl rfl rfl ⟨Nat.le_of_ble_eq_true rfl, Nat.le_of_ble_eq_true rfl⟩ (Nat.le_of_ble_eq_true rfl) dX3_findBest_76 ?_
                  show VV X 8 ad cs M21 79 [(0, .ref (ad 90)), (1, .ref (ad 1)), (2, .int w2), (3, .int x3), (4, .int x6), (5, .int x9), (6, .int x13), (7, .int x17)] []
                  obtain ⟨x22, ex22, h⟩ := bd_e h
                  refine v_iinc (v := x22) (pc := 79) 7 [(7, .int x22), (0, .ref (ad 90)), (1, .ref (ad 1)), (2, .int w2), (3, .int x3), (4, .int x6), (5, .int x9), (6, .int x13)] hX dX3_findBest_79 rfl (ex22.trans (by rw [ic_1])) (by decide) rfl ?_
                  refine v_goto (pc := 82) (tgt := 61) hX dX3_findBest_82 (by decide) ?_
                  obtain rfl := Option.some.inj h
                  exact v_sub [1, 2, 3, 4, 5, 6, 7, 0] rfl hK
              )
              obtain ⟨M24, h26, h⟩ := b1_e h
              refine v_sub [1, 2, 3, 4, 5, 6, 7, 0] rfl ?_
              refine L23 1000 _ _ h26 ?_
              show VV X 8 ad cs M24 85 [(0, .ref (ad 90)), (1, .ref (ad 1)), (2, .int w2), (3, .int x3), (4, .int x6), (5, .int x9), (6, .int x13)] []
              obtain ⟨x25, ex25, h⟩ := bd_e h
              refine v_iinc (v := x25) (pc := 85) 6 [(6, .int x25), (0, .ref (ad 90)), (1, .ref (ad 1)), (2, .int w2), (3, .int x3), (4, .int x6), (5, .int x9)] hX dX3_findBest_85 rfl (ex25.trans (by rw [ic_1])) (by decide) rfl ?_
              refine v_goto (pc := 88) (tgt := 50) hX dX3_findBest_88 (by decide) ?_
              obtain rfl := Option.some.inj h
              exact v_sub [1, 2, 3, 4, 5, 6, 0] rfl hK
          )
          obtain ⟨M28, h30, h⟩ := b1_e h
          refine v_sub [1, 2, 3, 4, 5, 6, 0] rfl ?_
          refine L27 1000 _ _ h30 ?_
          show VV X 8 ad cs M28 91 [(0, .ref (ad 90)), (1, .ref (ad 1)), (2, .int w2), (3, .int x3), (4, .int x6), (5, .int x9)] []
          obtain ⟨x29, ex29, h⟩ := bd_e h
          refine v_iinc (v := x29) (pc := 91) 5 [(5, .int x29), (0, .ref (ad 90)), (1, .ref (ad 1)), (2, .int w2), (3, .int x3), (4, .int x6)] hX dX3_findBest_91 rfl (ex29.trans (by rw [ic_1])) (by decide) rfl ?_
          refine v_goto (pc := 94) (tgt := 40) hX dX3_findBest_94 (by decide) ?_
          obtain rfl := Option.some.inj h
          exact v_sub [1, 2, 3, 4, 5, 0] rfl hK
      )
      obtain ⟨M32, h33, h⟩ := b1_e h
      refine v_sub [2, 3, 4, 5, 1, 0] rfl ?_
      refine L31 1000 _ _ h33 ?_
      show VV X 8 ad cs M32 97 [] []
      obtain rfl := Option.some.inj h
      exact v_vret (pc := 97) hX hR dX3_findBest_97
    refine v_icmp_le (pc := 19) (tgt := 26) hX dX3_findBest_19 (by decide) (fun h34 => ?_) (fun h34 => ?_)
    · have h := if_t h h34
      refine v_iconst (pc := 26) hX dX3_findBest_26 ic_0 ?_
      exact v_sub [1, 2, 3, 0] rfl (K5 0 h)
    · have h := if_f h h34
      refine v_iload_n (pc := 22) 3 hX dX3_findBest_22 rfl ?_
      refine v_goto (pc := 23) (tgt := 27) hX dX3_findBest_23 (by decide) ?_
      exact v_sub [1, 2, 3, 0] rfl (K5 w2 h)
  refine v_icmp_le (pc := 5) (tgt := 12) hX dX3_findBest_5 (by decide) (fun h35 => ?_) (fun h35 => ?_)
  · have h := if_t h h35
    refine v_iconst (pc := 12) hX dX3_findBest_12 ic_0 ?_
    exact v_sub [0, 1, 2] rfl (K2 0 h)
  · have h := if_f h h35
    refine v_iload_n (pc := 8) 2 hX dX3_findBest_8 rfl ?_
    refine v_goto (pc := 9) (tgt := 13) hX dX3_findBest_9 (by decide) ?_
    exact v_sub [0, 1, 2] rfl (K2 w2 h)
set_option maxHeartbeats 4000000 in
set_option maxRecDepth 100000 in
theorem c_X10_around {ad : Nat → Nat} {cs : List Nat} (hcs : ∀ k, 0 ≤ k → k < 92 → k ∈ cs) (M : Mm) (w1 : Int32) (w2 : Int32) (q : Int32 × Mm) (h : fX10_around M w1 w2 = some q) : CT ad cs yX10_around cX10_around 3 (some .int) 4 110 [.ref (ad 0), .int w1, .int w2] M (some (.int q.1)) q.2 := by
  refine CT.of RX10 (by decide +kernel) rfl (Nat.le_of_ble_eq_true rfl) (fun X hX hR => ?_)
  unfold fX10_around at h
  show VV X 3 ad cs M 0 [(0, .ref (ad 0)), (1, .int w1), (2, .int w2)] []
  refine v_iload_n (pc := 0) 1 hX dX10_around_0 rfl ?_
  refine v_iconst (pc := 1) hX dX10_around_1 ic_0 ?_
  refine v_iconst (pc := 2) hX dX10_around_2 ic_3 ?_
  obtain ⟨x2, h1, h⟩ := b1_e h
  refine v_callS (pc := 3) [.int w1, .int 0, .int 3] (some (.int x2)) M hX cv_10_62 (c_X10_within M w1 0 3 x2 h1) rfl rfl ⟨Nat.le_of_ble_eq_true rfl, Nat.le_of_ble_eq_true rfl⟩ (Nat.le_of_ble_eq_true rfl) dX10_around_3 ?_
  show VV X 3 ad cs M 6 [(0, .ref (ad 0)), (1, .int w1), (2, .int w2)] [.int x2]
  refine v_if_eq (pc := 6) (tgt := 18) hX dX10_around_6 (by decide) (fun h3 => ?_) (fun h3 => ?_)
  · have h := if_t h h3
    refine v_ldc (pc := 18) hX kc_10_66 dX10_around_18 ?_
    obtain rfl := Option.some.inj h
    exact v_iret (pc := 20) hX hR dX10_around_20
  · have h := if_f h h3
    refine v_iload_n (pc := 9) 2 hX dX10_around_9 rfl ?_
    refine v_iconst (pc := 10) hX dX10_around_10 ic_0 ?_
    refine v_iconst (pc := 11) hX dX10_around_11 ic_2 ?_
    obtain ⟨x5, h4, h⟩ := b1_e h
    refine v_callS (pc := 12) [.int w2, .int 0, .int 2] (some (.int x5)) M hX cv_10_62 (c_X10_within M w2 0 2 x5 h4) rfl rfl ⟨Nat.le_of_ble_eq_true rfl, Nat.le_of_ble_eq_true rfl⟩ (Nat.le_of_ble_eq_true rfl) dX10_around_12 ?_
    show VV X 3 ad cs M 15 [(0, .ref (ad 0)), (1, .int w1), (2, .int w2)] [.int x5]
    refine v_if_ne (pc := 15) (tgt := 21) hX dX10_around_15 (by decide) (fun h6 => ?_) (fun h6 => ?_)
    · have h := if_f h h6
      refine v_aload_n (pc := 21) 0 hX dX10_around_21 rfl ?_
      refine v_getR (pc := 22) (t := 1) hX (hcs 0 (Nat.le_of_ble_eq_true rfl) (Nat.le_of_ble_eq_true rfl)) sh_0 fl_10_10 rfl dX10_around_22 ?_
      obtain ⟨x8, h7, h⟩ := b1_e h
      refine v_callV (pc := 25) [] (some (.int x8)) M hX cv_10_117 (c_X6_placeIsAllowed (sub_cs hcs (Nat.le_of_ble_eq_true rfl) (Nat.le_of_ble_eq_true rfl)) M x8 h7) (hcs 1 (Nat.le_of_ble_eq_true rfl) (Nat.le_of_ble_eq_true rfl)) sh_1 rfl rfl rfl ⟨Nat.le_of_ble_eq_true rfl, Nat.le_of_ble_eq_true rfl⟩ (Nat.le_of_ble_eq_true rfl) dX10_around_25 ?_
      show VV X 3 ad cs M 28 [(0, .ref (ad 0)), (1, .int w1), (2, .int w2)] [.int x8]
      refine v_if_ne (pc := 28) (tgt := 34) hX dX10_around_28 (by decide) (fun h9 => ?_) (fun h9 => ?_)
      · have h := if_f h h9
        refine v_aload_n (pc := 34) 0 hX dX10_around_34 rfl ?_
        refine v_getR (pc := 35) (t := 90) hX (hcs 0 (Nat.le_of_ble_eq_true rfl) (Nat.le_of_ble_eq_true rfl)) sh_0 fl_10_51 rfl dX10_around_35 ?_
        refine v_aload_n (pc := 38) 0 hX dX10_around_38 rfl ?_
        refine v_getR (pc := 39) (t := 1) hX (hcs 0 (Nat.le_of_ble_eq_true rfl) (Nat.le_of_ble_eq_true rfl)) sh_0 fl_10_10 rfl dX10_around_39 ?_
        refine v_iload_n (pc := 42) 1 hX dX10_around_42 rfl ?_
        obtain ⟨M11, h10, h⟩ := b1_e h
        refine v_callV (pc := 43) [.ref (ad 1), .int w1] none M11 hX cv_10_237 (c_X3_findBest (sub_cs hcs (Nat.le_of_ble_eq_true rfl) (Nat.le_of_ble_eq_true rfl)) M w1 M11 h10) (hcs 90 (Nat.le_of_ble_eq_true rfl) (Nat.le_of_ble_eq_true rfl)) sh_90 rfl rfl rfl ⟨Nat.le_of_ble_eq_true rfl, Nat.le_of_ble_eq_true rfl⟩ (Nat.le_of_ble_eq_true rfl) dX10_around_43 ?_
        show VV X 3 ad cs M11 46 [(0, .ref (ad 0)), (1, .int w1), (2, .int w2)] []
        refine v_aload_n (pc := 46) 0 hX dX10_around_46 rfl ?_
        refine v_getR (pc := 47) (t := 90) hX (hcs 0 (Nat.le_of_ble_eq_true rfl) (Nat.le_of_ble_eq_true rfl)) sh_0 fl_10_51 rfl dX10_around_47 ?_
        refine v_getR (pc := 50) (t := 91) hX (hcs 90 (Nat.le_of_ble_eq_true rfl) (Nat.le_of_ble_eq_true rfl)) sh_90 fl_10_240 rfl dX10_around_50 ?_
        refine v_iload_n (pc := 53) 2 hX dX10_around_53 rfl ?_
        obtain ⟨g12, h⟩ := gd_e h
        refine v_iald (pc := 54) hX (hcs 91 (Nat.le_of_ble_eq_true rfl) (Nat.le_of_ble_eq_true rfl)) sh_91 g12 rfl dX10_around_54 ?_
        obtain rfl := Option.some.inj h
        exact v_iret (pc := 55) hX hR dX10_around_55
      · have h := if_t h h9
        refine v_ldc (pc := 31) hX kc_10_93 dX10_around_31 ?_
        obtain rfl := Option.some.inj h
        exact v_iret (pc := 33) hX hR dX10_around_33
    · have h := if_t h h6
      refine v_ldc (pc := 18) hX kc_10_66 dX10_around_18 ?_
      obtain rfl := Option.some.inj h
      exact v_iret (pc := 20) hX hR dX10_around_20
set_option maxHeartbeats 4000000 in
set_option maxRecDepth 100000 in
theorem c_X10_keep {ad : Nat → Nat} {cs : List Nat} (hcs : ∀ k, 0 ≤ k → k < 80 → k ∈ cs) (M : Mm) (q : Int32 × Mm) (h : fX10_keep M = some q) : CT ad cs yX10_keep cX10_keep 1 (some .int) 3 68 [.ref (ad 0)] M (some (.int q.1)) q.2 := by
  refine CT.of RX10 (by decide +kernel) rfl (Nat.le_of_ble_eq_true rfl) (fun X hX hR => ?_)
  unfold fX10_keep at h
  show VV X 1 ad cs M 0 [(0, .ref (ad 0))] []
  refine v_aload_n (pc := 0) 0 hX dX10_keep_0 rfl ?_
  refine v_getR (pc := 1) (t := 67) hX (hcs 0 (Nat.le_of_ble_eq_true rfl) (Nat.le_of_ble_eq_true rfl)) sh_0 fl_10_27 rfl dX10_keep_1 ?_
  refine v_aload_n (pc := 4) 0 hX dX10_keep_4 rfl ?_
  refine v_getR (pc := 5) (t := 1) hX (hcs 0 (Nat.le_of_ble_eq_true rfl) (Nat.le_of_ble_eq_true rfl)) sh_0 fl_10_10 rfl dX10_keep_5 ?_
  obtain ⟨M2, h1, h⟩ := b1_e h
  refine v_callV (pc := 8) [.ref (ad 1)] none M2 hX cv_10_243 (c_X6_copyFrom 67 lyat_67 (sub_cs hcs (Nat.le_of_ble_eq_true rfl) (Nat.le_of_ble_eq_true rfl)) 1 lyat_1 (sub_cs hcs (Nat.le_of_ble_eq_true rfl) (Nat.le_of_ble_eq_true rfl)) M M2 h1) (hcs 67 (Nat.le_of_ble_eq_true rfl) (Nat.le_of_ble_eq_true rfl)) sh_67 rfl rfl rfl ⟨Nat.le_of_ble_eq_true rfl, Nat.le_of_ble_eq_true rfl⟩ (Nat.le_of_ble_eq_true rfl) dX10_keep_8 ?_
  show VV X 1 ad cs M2 11 [(0, .ref (ad 0))] []
  refine v_aload_n (pc := 11) 0 hX dX10_keep_11 rfl ?_
  refine v_iconst (pc := 12) hX dX10_keep_12 ic_1 ?_
  obtain ⟨M3, eM3, h⟩ := bd_e h
  refine v_putZ (pc := 13) hX (hcs 0 (Nat.le_of_ble_eq_true rfl) (Nat.le_of_ble_eq_true rfl)) sh_0 pl_10_30 rfl (Or.inr rfl) dX10_keep_13 eM3 ?_
  refine v_aload_n (pc := 16) 0 hX dX10_keep_16 rfl ?_
  refine v_getR (pc := 17) (t := 1) hX (hcs 0 (Nat.le_of_ble_eq_true rfl) (Nat.le_of_ble_eq_true rfl)) sh_0 fl_10_10 rfl dX10_keep_17 ?_
  refine v_getR (pc := 20) (t := 2) hX (hcs 1 (Nat.le_of_ble_eq_true rfl) (Nat.le_of_ble_eq_true rfl)) sh_1 fl_10_79 rfl dX10_keep_20 ?_
  refine v_getI (pc := 23) hX (hcs 2 (Nat.le_of_ble_eq_true rfl) (Nat.le_of_ble_eq_true rfl)) sh_2 fl_10_83 rfl dX10_keep_23 ?_
  obtain rfl := Option.some.inj h
  exact v_iret (pc := 26) hX hR dX10_keep_26
set_option maxHeartbeats 4000000 in
set_option maxRecDepth 100000 in
theorem c_X10_restore {ad : Nat → Nat} {cs : List Nat} (hcs : ∀ k, 0 ≤ k → k < 80 → k ∈ cs) (M : Mm) (q : Int32 × Mm) (h : fX10_restore M = some q) : CT ad cs yX10_restore cX10_restore 1 (some .int) 4 89 [.ref (ad 0)] M (some (.int q.1)) q.2 := by
  refine CT.of RX10 (by decide +kernel) rfl (Nat.le_of_ble_eq_true rfl) (fun X hX hR => ?_)
  unfold fX10_restore at h
  show VV X 1 ad cs M 0 [(0, .ref (ad 0))] []
  refine v_aload_n (pc := 0) 0 hX dX10_restore_0 rfl ?_
  refine v_getI (pc := 1) hX (hcs 0 (Nat.le_of_ble_eq_true rfl) (Nat.le_of_ble_eq_true rfl)) sh_0 fl_10_30 rfl dX10_restore_1 ?_
  refine v_if_ne (pc := 4) (tgt := 10) hX dX10_restore_4 (by decide) (fun h1 => ?_) (fun h1 => ?_)
  · have h := if_f h h1
    refine v_aload_n (pc := 10) 0 hX dX10_restore_10 rfl ?_
    refine v_getR (pc := 11) (t := 14) hX (hcs 0 (Nat.le_of_ble_eq_true rfl) (Nat.le_of_ble_eq_true rfl)) sh_0 fl_10_23 rfl dX10_restore_11 ?_
    refine v_aload_n (pc := 14) 0 hX dX10_restore_14 rfl ?_
    refine v_getR (pc := 15) (t := 1) hX (hcs 0 (Nat.le_of_ble_eq_true rfl) (Nat.le_of_ble_eq_true rfl)) sh_0 fl_10_10 rfl dX10_restore_15 ?_
    obtain ⟨M3, h2, h⟩ := b1_e h
    refine v_callV (pc := 18) [.ref (ad 1)] none M3 hX cv_10_71 (c_X2_push (sub_cs hcs (Nat.le_of_ble_eq_true rfl) (Nat.le_of_ble_eq_true rfl)) M M3 h2) (hcs 14 (Nat.le_of_ble_eq_true rfl) (Nat.le_of_ble_eq_true rfl)) sh_14 rfl rfl rfl ⟨Nat.le_of_ble_eq_true rfl, Nat.le_of_ble_eq_true rfl⟩ (Nat.le_of_ble_eq_true rfl) dX10_restore_18 ?_
    show VV X 1 ad cs M3 21 [(0, .ref (ad 0))] []
    refine v_aload_n (pc := 21) 0 hX dX10_restore_21 rfl ?_
    refine v_getR (pc := 22) (t := 1) hX (hcs 0 (Nat.le_of_ble_eq_true rfl) (Nat.le_of_ble_eq_true rfl)) sh_0 fl_10_10 rfl dX10_restore_22 ?_
    refine v_aload_n (pc := 25) 0 hX dX10_restore_25 rfl ?_
    refine v_getR (pc := 26) (t := 67) hX (hcs 0 (Nat.le_of_ble_eq_true rfl) (Nat.le_of_ble_eq_true rfl)) sh_0 fl_10_27 rfl dX10_restore_26 ?_
    obtain ⟨M5, h4, h⟩ := b1_e h
    refine v_callV (pc := 29) [.ref (ad 67)] none M5 hX cv_10_243 (c_X6_copyFrom 1 lyat_1 (sub_cs hcs (Nat.le_of_ble_eq_true rfl) (Nat.le_of_ble_eq_true rfl)) 67 lyat_67 (sub_cs hcs (Nat.le_of_ble_eq_true rfl) (Nat.le_of_ble_eq_true rfl)) M3 M5 h4) (hcs 1 (Nat.le_of_ble_eq_true rfl) (Nat.le_of_ble_eq_true rfl)) sh_1 rfl rfl rfl ⟨Nat.le_of_ble_eq_true rfl, Nat.le_of_ble_eq_true rfl⟩ (Nat.le_of_ble_eq_true rfl) dX10_restore_29 ?_
    show VV X 1 ad cs M5 32 [(0, .ref (ad 0))] []
    refine v_aload_n (pc := 32) 0 hX dX10_restore_32 rfl ?_
    refine v_getR (pc := 33) (t := 1) hX (hcs 0 (Nat.le_of_ble_eq_true rfl) (Nat.le_of_ble_eq_true rfl)) sh_0 fl_10_10 rfl dX10_restore_33 ?_
    refine v_getR (pc := 36) (t := 2) hX (hcs 1 (Nat.le_of_ble_eq_true rfl) (Nat.le_of_ble_eq_true rfl)) sh_1 fl_10_79 rfl dX10_restore_36 ?_
    refine v_getI (pc := 39) hX (hcs 2 (Nat.le_of_ble_eq_true rfl) (Nat.le_of_ble_eq_true rfl)) sh_2 fl_10_83 rfl dX10_restore_39 ?_
    obtain rfl := Option.some.inj h
    exact v_iret (pc := 42) hX hR dX10_restore_42
  · have h := if_t h h1
    refine v_ldc (pc := 7) hX kc_10_93 dX10_restore_7 ?_
    obtain rfl := Option.some.inj h
    exact v_iret (pc := 9) hX hR dX10_restore_9
set_option maxHeartbeats 4000000 in
set_option maxRecDepth 100000 in
theorem c_X2_giveBack {ad : Nat → Nat} {cs : List Nat} (hcs : ∀ k, 1 ≤ k → k < 67 → k ∈ cs) (M : Mm) (q : Mm) (h : fX2_giveBack M = some q) : CT ad cs yX2_giveBack cX2_giveBack 2 none 3 68 [.ref (ad 14), .ref (ad 1)] M none q := by
  refine CT.of RX2 (by decide +kernel) rfl (Nat.le_of_ble_eq_true rfl) (fun X hX hR => ?_)
  unfold fX2_giveBack at h
  show VV X 2 ad cs M 0 [(0, .ref (ad 14)), (1, .ref (ad 1))] []
  refine v_aload_n (pc := 0) 1 hX dX2_giveBack_0 rfl ?_
  refine v_aload_n (pc := 1) 0 hX dX2_giveBack_1 rfl ?_
  refine v_getR (pc := 2) (t := 15) hX (hcs 14 (Nat.le_of_ble_eq_true rfl) (Nat.le_of_ble_eq_true rfl)) sh_14 fl_2_12 rfl dX2_giveBack_2 ?_
  obtain ⟨M2, h1, h⟩ := b1_e h
  refine v_callV (pc := 5) [.ref (ad 15)] none M2 hX cv_2_27 (c_X6_copyFrom 1 lyat_1 (sub_cs hcs (Nat.le_of_ble_eq_true rfl) (Nat.le_of_ble_eq_true rfl)) 15 lyat_15 (sub_cs hcs (Nat.le_of_ble_eq_true rfl) (Nat.le_of_ble_eq_true rfl)) M M2 h1) (hcs 1 (Nat.le_of_ble_eq_true rfl) (Nat.le_of_ble_eq_true rfl)) sh_1 rfl rfl rfl ⟨Nat.le_of_ble_eq_true rfl, Nat.le_of_ble_eq_true rfl⟩ (Nat.le_of_ble_eq_true rfl) dX2_giveBack_5 ?_
  show VV X 2 ad cs M2 8 [(0, .ref (ad 14)), (1, .ref (ad 1))] []
  refine v_aload_n (pc := 8) 0 hX dX2_giveBack_8 rfl ?_
  refine v_getR (pc := 9) (t := 15) hX (hcs 14 (Nat.le_of_ble_eq_true rfl) (Nat.le_of_ble_eq_true rfl)) sh_14 fl_2_12 rfl dX2_giveBack_9 ?_
  refine v_aload_n (pc := 12) 0 hX dX2_giveBack_12 rfl ?_
  refine v_getR (pc := 13) (t := 28) hX (hcs 14 (Nat.le_of_ble_eq_true rfl) (Nat.le_of_ble_eq_true rfl)) sh_14 fl_2_18 rfl dX2_giveBack_13 ?_
  obtain ⟨M4, h3, h⟩ := b1_e h
  refine v_callV (pc := 16) [.ref (ad 28)] none M4 hX cv_2_27 (c_X6_copyFrom 15 lyat_15 (sub_cs hcs (Nat.le_of_ble_eq_true rfl) (Nat.le_of_ble_eq_true rfl)) 28 lyat_28 (sub_cs hcs (Nat.le_of_ble_eq_true rfl) (Nat.le_of_ble_eq_true rfl)) M2 M4 h3) (hcs 15 (Nat.le_of_ble_eq_true rfl) (Nat.le_of_ble_eq_true rfl)) sh_15 rfl rfl rfl ⟨Nat.le_of_ble_eq_true rfl, Nat.le_of_ble_eq_true rfl⟩ (Nat.le_of_ble_eq_true rfl) dX2_giveBack_16 ?_
  show VV X 2 ad cs M4 19 [(0, .ref (ad 14)), (1, .ref (ad 1))] []
  refine v_aload_n (pc := 19) 0 hX dX2_giveBack_19 rfl ?_
  refine v_getR (pc := 20) (t := 28) hX (hcs 14 (Nat.le_of_ble_eq_true rfl) (Nat.le_of_ble_eq_true rfl)) sh_14 fl_2_18 rfl dX2_giveBack_20 ?_
  refine v_aload_n (pc := 23) 0 hX dX2_giveBack_23 rfl ?_
  refine v_getR (pc := 24) (t := 41) hX (hcs 14 (Nat.le_of_ble_eq_true rfl) (Nat.le_of_ble_eq_true rfl)) sh_14 fl_2_21 rfl dX2_giveBack_24 ?_
  obtain ⟨M6, h5, h⟩ := b1_e h
  refine v_callV (pc := 27) [.ref (ad 41)] none M6 hX cv_2_27 (c_X6_copyFrom 28 lyat_28 (sub_cs hcs (Nat.le_of_ble_eq_true rfl) (Nat.le_of_ble_eq_true rfl)) 41 lyat_41 (sub_cs hcs (Nat.le_of_ble_eq_true rfl) (Nat.le_of_ble_eq_true rfl)) M4 M6 h5) (hcs 28 (Nat.le_of_ble_eq_true rfl) (Nat.le_of_ble_eq_true rfl)) sh_28 rfl rfl rfl ⟨Nat.le_of_ble_eq_true rfl, Nat.le_of_ble_eq_true rfl⟩ (Nat.le_of_ble_eq_true rfl) dX2_giveBack_27 ?_
  show VV X 2 ad cs M6 30 [(0, .ref (ad 14)), (1, .ref (ad 1))] []
  refine v_aload_n (pc := 30) 0 hX dX2_giveBack_30 rfl ?_
  refine v_getR (pc := 31) (t := 41) hX (hcs 14 (Nat.le_of_ble_eq_true rfl) (Nat.le_of_ble_eq_true rfl)) sh_14 fl_2_21 rfl dX2_giveBack_31 ?_
  refine v_aload_n (pc := 34) 0 hX dX2_giveBack_34 rfl ?_
  refine v_getR (pc := 35) (t := 54) hX (hcs 14 (Nat.le_of_ble_eq_true rfl) (Nat.le_of_ble_eq_true rfl)) sh_14 fl_2_24 rfl dX2_giveBack_35 ?_
  obtain ⟨M8, h7, h⟩ := b1_e h
  refine v_callV (pc := 38) [.ref (ad 54)] none M8 hX cv_2_27 (c_X6_copyFrom 41 lyat_41 (sub_cs hcs (Nat.le_of_ble_eq_true rfl) (Nat.le_of_ble_eq_true rfl)) 54 lyat_54 (sub_cs hcs (Nat.le_of_ble_eq_true rfl) (Nat.le_of_ble_eq_true rfl)) M6 M8 h7) (hcs 41 (Nat.le_of_ble_eq_true rfl) (Nat.le_of_ble_eq_true rfl)) sh_41 rfl rfl rfl ⟨Nat.le_of_ble_eq_true rfl, Nat.le_of_ble_eq_true rfl⟩ (Nat.le_of_ble_eq_true rfl) dX2_giveBack_38 ?_
  show VV X 2 ad cs M8 41 [(0, .ref (ad 14)), (1, .ref (ad 1))] []
  refine v_aload_n (pc := 41) 0 hX dX2_giveBack_41 rfl ?_
  refine v_dup (pc := 42) hX dX2_giveBack_42 rfl ?_
  refine v_getI (pc := 43) hX (hcs 14 (Nat.le_of_ble_eq_true rfl) (Nat.le_of_ble_eq_true rfl)) sh_14 fl_2_31 rfl dX2_giveBack_43 ?_
  refine v_iconst (pc := 46) hX dX2_giveBack_46 ic_1 ?_
  refine v_isub (pc := 47) hX dX2_giveBack_47 ?_
  obtain ⟨M9, eM9, h⟩ := bd_e h
  refine v_putI (pc := 48) hX (hcs 14 (Nat.le_of_ble_eq_true rfl) (Nat.le_of_ble_eq_true rfl)) sh_14 pl_2_31 rfl dX2_giveBack_48 eM9 ?_
  obtain rfl := Option.some.inj h
  exact v_vret (pc := 51) hX hR dX2_giveBack_51
set_option maxHeartbeats 4000000 in
set_option maxRecDepth 100000 in
theorem c_X10_undo {ad : Nat → Nat} {cs : List Nat} (hcs : ∀ k, 0 ≤ k → k < 67 → k ∈ cs) (M : Mm) (q : Int32 × Mm) (h : fX10_undo M = some q) : CT ad cs yX10_undo cX10_undo 1 (some .int) 4 89 [.ref (ad 0)] M (some (.int q.1)) q.2 := by
  refine CT.of RX10 (by decide +kernel) rfl (Nat.le_of_ble_eq_true rfl) (fun X hX hR => ?_)
  unfold fX10_undo at h
  show VV X 1 ad cs M 0 [(0, .ref (ad 0))] []
  refine v_aload_n (pc := 0) 0 hX dX10_undo_0 rfl ?_
  refine v_getR (pc := 1) (t := 14) hX (hcs 0 (Nat.le_of_ble_eq_true rfl) (Nat.le_of_ble_eq_true rfl)) sh_0 fl_10_23 rfl dX10_undo_1 ?_
  refine v_getI (pc := 4) hX (hcs 14 (Nat.le_of_ble_eq_true rfl) (Nat.le_of_ble_eq_true rfl)) sh_14 fl_10_212 rfl dX10_undo_4 ?_
  refine v_if_ne (pc := 7) (tgt := 13) hX dX10_undo_7 (by decide) (fun h1 => ?_) (fun h1 => ?_)
  · have h := if_f h h1
    refine v_aload_n (pc := 13) 0 hX dX10_undo_13 rfl ?_
    refine v_getR (pc := 14) (t := 14) hX (hcs 0 (Nat.le_of_ble_eq_true rfl) (Nat.le_of_ble_eq_true rfl)) sh_0 fl_10_23 rfl dX10_undo_14 ?_
    refine v_aload_n (pc := 17) 0 hX dX10_undo_17 rfl ?_
    refine v_getR (pc := 18) (t := 1) hX (hcs 0 (Nat.le_of_ble_eq_true rfl) (Nat.le_of_ble_eq_true rfl)) sh_0 fl_10_10 rfl dX10_undo_18 ?_
    obtain ⟨M3, h2, h⟩ := b1_e h
    refine v_callV (pc := 21) [.ref (ad 1)] none M3 hX cv_10_246 (c_X2_giveBack (sub_cs hcs (Nat.le_of_ble_eq_true rfl) (Nat.le_of_ble_eq_true rfl)) M M3 h2) (hcs 14 (Nat.le_of_ble_eq_true rfl) (Nat.le_of_ble_eq_true rfl)) sh_14 rfl rfl rfl ⟨Nat.le_of_ble_eq_true rfl, Nat.le_of_ble_eq_true rfl⟩ (Nat.le_of_ble_eq_true rfl) dX10_undo_21 ?_
    show VV X 1 ad cs M3 24 [(0, .ref (ad 0))] []
    refine v_aload_n (pc := 24) 0 hX dX10_undo_24 rfl ?_
    refine v_getR (pc := 25) (t := 14) hX (hcs 0 (Nat.le_of_ble_eq_true rfl) (Nat.le_of_ble_eq_true rfl)) sh_0 fl_10_23 rfl dX10_undo_25 ?_
    refine v_getI (pc := 28) hX (hcs 14 (Nat.le_of_ble_eq_true rfl) (Nat.le_of_ble_eq_true rfl)) sh_14 fl_10_212 rfl dX10_undo_28 ?_
    obtain rfl := Option.some.inj h
    exact v_iret (pc := 31) hX hR dX10_undo_31
  · have h := if_t h h1
    refine v_ldc (pc := 10) hX kc_10_93 dX10_undo_10 ?_
    obtain rfl := Option.some.inj h
    exact v_iret (pc := 12) hX hR dX10_undo_12
set_option maxHeartbeats 4000000 in
set_option maxRecDepth 100000 in
theorem c_X8_append {ad : Nat → Nat} {cs : List Nat} (hcs : ∀ k, 80 ≤ k → k < 82 → k ∈ cs) (M : Mm) (w1 : Int32) (q : Mm) (h : fX8_append M w1 = some q) : CT ad cs yX8_append cX8_append 2 none 0 0 [.ref (ad 80), .int w1] M none q := by
  refine CT.of RX8 (by decide +kernel) rfl (Nat.le_of_ble_eq_true rfl) (fun X hX hR => ?_)
  unfold fX8_append at h
  show VV X 2 ad cs M 0 [(0, .ref (ad 80)), (1, .int w1)] []
  refine v_aload_n (pc := 0) 0 hX dX8_append_0 rfl ?_
  refine v_getI (pc := 1) hX (hcs 80 (Nat.le_of_ble_eq_true rfl) (Nat.le_of_ble_eq_true rfl)) sh_80 fl_8_25 rfl dX8_append_1 ?_
  refine v_bipush (pc := 4) hX dX8_append_4 bp_60 ?_
  refine v_icmp_ge (pc := 6) (tgt := 29) hX dX8_append_6 (by decide) (fun h1 => ?_) (fun h1 => ?_)
  · have h := if_t h h1
    obtain rfl := Option.some.inj h
    exact v_vret (pc := 29) hX hR dX8_append_29
  · have h := if_f h h1
    refine v_aload_n (pc := 9) 0 hX dX8_append_9 rfl ?_
    refine v_getR (pc := 10) (t := 81) hX (hcs 80 (Nat.le_of_ble_eq_true rfl) (Nat.le_of_ble_eq_true rfl)) sh_80 fl_8_9 rfl dX8_append_10 ?_
    refine v_aload_n (pc := 13) 0 hX dX8_append_13 rfl ?_
    refine v_getI (pc := 14) hX (hcs 80 (Nat.le_of_ble_eq_true rfl) (Nat.le_of_ble_eq_true rfl)) sh_80 fl_8_25 rfl dX8_append_14 ?_
    refine v_iload_n (pc := 17) 1 hX dX8_append_17 rfl ?_
    obtain ⟨g2, h⟩ := gd_e h
    obtain ⟨M3, eM3, h⟩ := bd_e h
    refine v_iast (pc := 18) hX (hcs 81 (Nat.le_of_ble_eq_true rfl) (Nat.le_of_ble_eq_true rfl)) sh_81 g2 rfl dX8_append_18 eM3 ?_
    refine v_aload_n (pc := 19) 0 hX dX8_append_19 rfl ?_
    refine v_dup (pc := 20) hX dX8_append_20 rfl ?_
    refine v_getI (pc := 21) hX (hcs 80 (Nat.le_of_ble_eq_true rfl) (Nat.le_of_ble_eq_true rfl)) sh_80 fl_8_25 rfl dX8_append_21 ?_
    refine v_iconst (pc := 24) hX dX8_append_24 ic_1 ?_
    refine v_iadd (pc := 25) hX dX8_append_25 ?_
    obtain ⟨M4, eM4, h⟩ := bd_e h
    refine v_putI (pc := 26) hX (hcs 80 (Nat.le_of_ble_eq_true rfl) (Nat.le_of_ble_eq_true rfl)) sh_80 pl_8_25 rfl dX8_append_26 eM4 ?_
    obtain rfl := Option.some.inj h
    exact v_vret (pc := 29) hX hR dX8_append_29
set_option maxHeartbeats 4000000 in
set_option maxRecDepth 100000 in
theorem c_X10_type {ad : Nat → Nat} {cs : List Nat} (hcs : ∀ k, 0 ≤ k → k < 82 → k ∈ cs) (M : Mm) (w1 : Int32) (q : Int32 × Mm) (h : fX10_type M w1 = some q) : CT ad cs yX10_type cX10_type 2 (some .int) 1 22 [.ref (ad 0), .int w1] M (some (.int q.1)) q.2 := by
  refine CT.of RX10 (by decide +kernel) rfl (Nat.le_of_ble_eq_true rfl) (fun X hX hR => ?_)
  unfold fX10_type at h
  show VV X 2 ad cs M 0 [(0, .ref (ad 0)), (1, .int w1)] []
  refine v_iload_n (pc := 0) 1 hX dX10_type_0 rfl ?_
  refine v_bipush (pc := 1) hX dX10_type_1 bp_32 ?_
  refine v_bipush (pc := 3) hX dX10_type_3 bp_126 ?_
  obtain ⟨x2, h1, h⟩ := b1_e h
  refine v_callS (pc := 5) [.int w1, .int 32, .int 126] (some (.int x2)) M hX cv_10_62 (c_X10_within M w1 32 126 x2 h1) rfl rfl ⟨Nat.le_of_ble_eq_true rfl, Nat.le_of_ble_eq_true rfl⟩ (Nat.le_of_ble_eq_true rfl) dX10_type_5 ?_
  show VV X 2 ad cs M 8 [(0, .ref (ad 0)), (1, .int w1)] [.int x2]
  refine v_if_ne (pc := 8) (tgt := 14) hX dX10_type_8 (by decide) (fun h3 => ?_) (fun h3 => ?_)
  · have h := if_f h h3
    refine v_aload_n (pc := 14) 0 hX dX10_type_14 rfl ?_
    refine v_getR (pc := 15) (t := 80) hX (hcs 0 (Nat.le_of_ble_eq_true rfl) (Nat.le_of_ble_eq_true rfl)) sh_0 fl_10_37 rfl dX10_type_15 ?_
    refine v_getI (pc := 18) hX (hcs 80 (Nat.le_of_ble_eq_true rfl) (Nat.le_of_ble_eq_true rfl)) sh_80 fl_10_213 rfl dX10_type_18 ?_
    refine v_bipush (pc := 21) hX dX10_type_21 bp_60 ?_
    refine v_icmp_lt (pc := 23) (tgt := 29) hX dX10_type_23 (by decide) (fun h4 => ?_) (fun h4 => ?_)
    · have h := if_t h h4
      refine v_aload_n (pc := 29) 0 hX dX10_type_29 rfl ?_
      refine v_getR (pc := 30) (t := 80) hX (hcs 0 (Nat.le_of_ble_eq_true rfl) (Nat.le_of_ble_eq_true rfl)) sh_0 fl_10_37 rfl dX10_type_30 ?_
      refine v_iload_n (pc := 33) 1 hX dX10_type_33 rfl ?_
      obtain ⟨M6, h5, h⟩ := b1_e h
      refine v_callV (pc := 34) [.int w1] none M6 hX cv_10_249 (c_X8_append (sub_cs hcs (Nat.le_of_ble_eq_true rfl) (Nat.le_of_ble_eq_true rfl)) M w1 M6 h5) (hcs 80 (Nat.le_of_ble_eq_true rfl) (Nat.le_of_ble_eq_true rfl)) sh_80 rfl rfl rfl ⟨Nat.le_of_ble_eq_true rfl, Nat.le_of_ble_eq_true rfl⟩ (Nat.le_of_ble_eq_true rfl) dX10_type_34 ?_
      show VV X 2 ad cs M6 37 [(0, .ref (ad 0)), (1, .int w1)] []
      refine v_aload_n (pc := 37) 0 hX dX10_type_37 rfl ?_
      refine v_getR (pc := 38) (t := 80) hX (hcs 0 (Nat.le_of_ble_eq_true rfl) (Nat.le_of_ble_eq_true rfl)) sh_0 fl_10_37 rfl dX10_type_38 ?_
      refine v_getI (pc := 41) hX (hcs 80 (Nat.le_of_ble_eq_true rfl) (Nat.le_of_ble_eq_true rfl)) sh_80 fl_10_213 rfl dX10_type_41 ?_
      obtain rfl := Option.some.inj h
      exact v_iret (pc := 44) hX hR dX10_type_44
    · have h := if_f h h4
      refine v_ldc (pc := 26) hX kc_10_88 dX10_type_26 ?_
      obtain rfl := Option.some.inj h
      exact v_iret (pc := 28) hX hR dX10_type_28
  · have h := if_t h h3
    refine v_ldc (pc := 11) hX kc_10_66 dX10_type_11 ?_
    obtain rfl := Option.some.inj h
    exact v_iret (pc := 13) hX hR dX10_type_13
set_option maxHeartbeats 4000000 in
set_option maxRecDepth 100000 in
theorem c_X10_clearText {ad : Nat → Nat} {cs : List Nat} (hcs : ∀ k, 0 ≤ k → k < 81 → k ∈ cs) (M : Mm) (q : Int32 × Mm) (h : fX10_clearText M = some q) : CT ad cs yX10_clearText cX10_clearText 2 (some .int) 0 0 [.ref (ad 0)] M (some (.int q.1)) q.2 := by
  refine CT.of RX10 (by decide +kernel) rfl (Nat.le_of_ble_eq_true rfl) (fun X hX hR => ?_)
  unfold fX10_clearText at h
  show VV X 2 ad cs M 0 [(0, .ref (ad 0))] []
  refine v_aload_n (pc := 0) 0 hX dX10_clearText_0 rfl ?_
  refine v_getR (pc := 1) (t := 80) hX (hcs 0 (Nat.le_of_ble_eq_true rfl) (Nat.le_of_ble_eq_true rfl)) sh_0 fl_10_37 rfl dX10_clearText_1 ?_
  refine v_getI (pc := 4) hX (hcs 80 (Nat.le_of_ble_eq_true rfl) (Nat.le_of_ble_eq_true rfl)) sh_80 fl_10_213 rfl dX10_clearText_4 ?_
  obtain ⟨x1, ex1, h⟩ := bd_e h
  refine v_top ex1 ?_
  refine v_istore_n (pc := 7) [(1, .int x1), (0, .ref (ad 0))] hX dX10_clearText_7 (by decide) rfl ?_
  refine v_aload_n (pc := 8) 1 hX dX10_clearText_8 rfl ?_
  refine v_getR (pc := 9) (t := 80) hX (hcs 0 (Nat.le_of_ble_eq_true rfl) (Nat.le_of_ble_eq_true rfl)) sh_0 fl_10_37 rfl dX10_clearText_9 ?_
  refine v_iconst (pc := 12) hX dX10_clearText_12 ic_0 ?_
  obtain ⟨M2, eM2, h⟩ := bd_e h
  refine v_putI (pc := 13) hX (hcs 80 (Nat.le_of_ble_eq_true rfl) (Nat.le_of_ble_eq_true rfl)) sh_80 pl_10_213 rfl dX10_clearText_13 eM2 ?_
  refine v_iload_n (pc := 16) 0 hX dX10_clearText_16 rfl ?_
  obtain rfl := Option.some.inj h
  exact v_iret (pc := 17) hX hR dX10_clearText_17
set_option maxHeartbeats 4000000 in
set_option maxRecDepth 100000 in
theorem c_X8_beginTerm {ad : Nat → Nat} {cs : List Nat} (hcs : ∀ k, 80 ≤ k → k < 86 → k ∈ cs) (M : Mm) (w1 : Int32) (q : Mm) (h : fX8_beginTerm M w1 = some q) : CT ad cs yX8_beginTerm cX8_beginTerm 3 none 0 0 [.ref (ad 80), .int w1] M none q := by
  refine CT.of RX8 (by decide +kernel) rfl (Nat.le_of_ble_eq_true rfl) (fun X hX hR => ?_)
  unfold fX8_beginTerm at h
  show VV X 3 ad cs M 0 [(0, .ref (ad 80)), (1, .int w1)] []
  refine v_aload_n (pc := 0) 0 hX dX8_beginTerm_0 rfl ?_
  refine v_iload_n (pc := 1) 1 hX dX8_beginTerm_1 rfl ?_
  obtain ⟨g1, h⟩ := gd_e h
  obtain ⟨M2, eM2, h⟩ := bd_e h
  refine v_putZ (pc := 2) hX (hcs 80 (Nat.le_of_ble_eq_true rfl) (Nat.le_of_ble_eq_true rfl)) sh_80 pl_8_80 rfl g1 dX8_beginTerm_2 eM2 ?_
  refine v_aload_n (pc := 5) 0 hX dX8_beginTerm_5 rfl ?_
  refine v_iconst (pc := 6) hX dX8_beginTerm_6 ic_0 ?_
  obtain ⟨M3, eM3, h⟩ := bd_e h
  refine v_putI (pc := 7) hX (hcs 80 (Nat.le_of_ble_eq_true rfl) (Nat.le_of_ble_eq_true rfl)) sh_80 pl_8_70 rfl dX8_beginTerm_7 eM3 ?_
  refine v_aload_n (pc := 10) 0 hX dX8_beginTerm_10 rfl ?_
  refine v_iconst (pc := 11) hX dX8_beginTerm_11 ic_0 ?_
  obtain ⟨M4, eM4, h⟩ := bd_e h
  refine v_putI (pc := 12) hX (hcs 80 (Nat.le_of_ble_eq_true rfl) (Nat.le_of_ble_eq_true rfl)) sh_80 pl_8_73 rfl dX8_beginTerm_12 eM4 ?_
  refine v_aload_n (pc := 15) 0 hX dX8_beginTerm_15 rfl ?_
  refine v_iconst (pc := 16) hX dX8_beginTerm_16 ic_0 ?_
  obtain ⟨M5, eM5, h⟩ := bd_e h
  refine v_putI (pc := 17) hX (hcs 80 (Nat.le_of_ble_eq_true rfl) (Nat.le_of_ble_eq_true rfl)) sh_80 pl_8_67 rfl dX8_beginTerm_17 eM5 ?_
  refine v_iconst (pc := 20) hX dX8_beginTerm_20 ic_0 ?_
  refine v_istore_n (pc := 21) [(2, .int 0), (0, .ref (ad 80)), (1, .int w1)] hX dX8_beginTerm_21 (by decide) rfl ?_
  have L12 := v_itr (fX8_beginTerm_L22) (fun z => VV X 3 ad cs z.2 22 [(0, .ref (ad 80)), (2, .int z.1)] []) (fun z => VV X 3 ad cs z 40 [] []) (by
    rintro ⟨x6, M7⟩ q h hK
    unfold fX8_beginTerm_L22 at h
    have h := u2_b h
    show VV X 3 ad cs M7 22 [(0, .ref (ad 80)), (2, .int x6)] []
    refine v_iload_n (pc := 22) 1 hX dX8_beginTerm_22 rfl ?_
    refine v_iconst (pc := 23) hX dX8_beginTerm_23 ic_3 ?_
    refine v_icmp_ge (pc := 24) (tgt := 40) hX dX8_beginTerm_24 (by decide) (fun h8 => ?_) (fun h8 => ?_)
    · have h := if_t h h8
      obtain rfl := Option.some.inj h
      exact v_sub [] rfl hK
    · have h := if_f h h8
      refine v_aload_n (pc := 27) 0 hX dX8_beginTerm_27 rfl ?_
      refine v_getR (pc := 28) (t := 85) hX (hcs 80 (Nat.le_of_ble_eq_true rfl) (Nat.le_of_ble_eq_true rfl)) sh_80 fl_8_22 rfl dX8_beginTerm_28 ?_
      refine v_iload_n (pc := 31) 1 hX dX8_beginTerm_31 rfl ?_
      refine v_iconst (pc := 32) hX dX8_beginTerm_32 ic_0 ?_
      obtain ⟨g9, h⟩ := gd_e h
      obtain ⟨M10, eM10, h⟩ := bd_e h
      refine v_iast (pc := 33) hX (hcs 85 (Nat.le_of_ble_eq_true rfl) (Nat.le_of_ble_eq_true rfl)) sh_85 g9 rfl dX8_beginTerm_33 eM10 ?_
      obtain ⟨x11, ex11, h⟩ := bd_e h
      refine v_iinc (v := x11) (pc := 34) 1 [(2, .int x11), (0, .ref (ad 80))] hX dX8_beginTerm_34 rfl (ex11.trans (by rw [ic_1])) (by decide) rfl ?_
      refine v_goto (pc := 37) (tgt := 22) hX dX8_beginTerm_37 (by decide) ?_
      obtain rfl := Option.some.inj h
      exact v_sub [1, 0] rfl hK
  )
  obtain ⟨M13, h14, h⟩ := b1_e h
  refine v_sub [1, 0] rfl ?_
  refine L12 1000 _ _ h14 ?_
  show VV X 3 ad cs M13 40 [] []
  obtain rfl := Option.some.inj h
  exact v_vret (pc := 40) hX hR dX8_beginTerm_40
set_option maxHeartbeats 4000000 in
set_option maxRecDepth 100000 in
theorem c_X8_termIsEmpty {ad : Nat → Nat} {cs : List Nat} (hcs : ∀ k, 80 ≤ k → k < 81 → k ∈ cs) (M : Mm) (q : Int32) (h : fX8_termIsEmpty M = some q) : CT ad cs yX8_termIsEmpty cX8_termIsEmpty 1 (some .boolean) 0 0 [.ref (ad 80)] M (some (.int q)) M := by
  refine CT.of RX8 (by decide +kernel) rfl (Nat.le_of_ble_eq_true rfl) (fun X hX hR => ?_)
  unfold fX8_termIsEmpty at h
  show VV X 1 ad cs M 0 [(0, .ref (ad 80))] []
  refine v_aload_n (pc := 0) 0 hX dX8_termIsEmpty_0 rfl ?_
  refine v_getI (pc := 1) hX (hcs 80 (Nat.le_of_ble_eq_true rfl) (Nat.le_of_ble_eq_true rfl)) sh_80 fl_8_70 rfl dX8_termIsEmpty_1 ?_
  refine v_if_ne (pc := 4) (tgt := 18) hX dX8_termIsEmpty_4 (by decide) (fun h1 => ?_) (fun h1 => ?_)
  · have h := if_f h h1
    refine v_iconst (pc := 18) hX dX8_termIsEmpty_18 ic_0 ?_
    obtain rfl := Option.some.inj h
    exact v_zret (pc := 19) hX hR (Or.inl rfl) dX8_termIsEmpty_19
  · have h := if_t h h1
    refine v_aload_n (pc := 7) 0 hX dX8_termIsEmpty_7 rfl ?_
    refine v_getI (pc := 8) hX (hcs 80 (Nat.le_of_ble_eq_true rfl) (Nat.le_of_ble_eq_true rfl)) sh_80 fl_8_67 rfl dX8_termIsEmpty_8 ?_
    refine v_if_ne (pc := 11) (tgt := 18) hX dX8_termIsEmpty_11 (by decide) (fun h2 => ?_) (fun h2 => ?_)
    · have h := if_f h h2
      refine v_iconst (pc := 18) hX dX8_termIsEmpty_18 ic_0 ?_
      obtain rfl := Option.some.inj h
      exact v_zret (pc := 19) hX hR (Or.inl rfl) dX8_termIsEmpty_19
    · have h := if_t h h2
      refine v_iconst (pc := 14) hX dX8_termIsEmpty_14 ic_1 ?_
      refine v_goto (pc := 15) (tgt := 19) hX dX8_termIsEmpty_15 (by decide) ?_
      obtain rfl := Option.some.inj h
      exact v_zret (pc := 19) hX hR (Or.inr rfl) dX8_termIsEmpty_19
set_option maxHeartbeats 4000000 in
set_option maxRecDepth 100000 in
theorem c_X7_add_82 {ad : Nat → Nat} {cs : List Nat} (hcs : ∀ k, 82 ≤ k → k < 85 → k ∈ cs) (M : Mm) (w1 : Int32) (w2 : Int32) (w3 : Int32) (w4 : Int32) (q : Mm) (h : fX7_add_82 M w1 w2 w3 w4 = some q) : CT ad cs yX7_add cX7_add 5 none 0 0 [.ref (ad 82), .int w1, .int w2, .int w3, .int w4] M none q := by
  refine CT.of RX7 (by decide +kernel) rfl (Nat.le_of_ble_eq_true rfl) (fun X hX hR => ?_)
  unfold fX7_add_82 at h
  show VV X 5 ad cs M 0 [(0, .ref (ad 82)), (1, .int w1), (2, .int w2), (3, .int w3), (4, .int w4)] []
  refine v_aload_n (pc := 0) 0 hX dX7_add_0 rfl ?_
  refine v_getI (pc := 1) hX (hcs 82 (Nat.le_of_ble_eq_true rfl) (Nat.le_of_ble_eq_true rfl)) sh_82 fl_7_18 rfl dX7_add_1 ?_
  refine v_bipush (pc := 4) hX dX7_add_4 bp_10 ?_
  refine v_icmp_lt (pc := 6) (tgt := 10) hX dX7_add_6 (by decide) (fun h1 => ?_) (fun h1 => ?_)
  · have h := if_t h h1
    refine v_aload_n (pc := 10) 0 hX dX7_add_10 rfl ?_
    refine v_getR (pc := 11) (t := 83) hX (hcs 82 (Nat.le_of_ble_eq_true rfl) (Nat.le_of_ble_eq_true rfl)) sh_82 fl_7_9 rfl dX7_add_11 ?_
    refine v_aload_n (pc := 14) 0 hX dX7_add_14 rfl ?_
    refine v_getI (pc := 15) hX (hcs 82 (Nat.le_of_ble_eq_true rfl) (Nat.le_of_ble_eq_true rfl)) sh_82 fl_7_18 rfl dX7_add_15 ?_
    refine v_iload_n (pc := 18) 1 hX dX7_add_18 rfl ?_
    obtain ⟨g2, h⟩ := gd_e h
    obtain ⟨M3, eM3, h⟩ := bd_e h
    refine v_iast (pc := 19) hX (hcs 83 (Nat.le_of_ble_eq_true rfl) (Nat.le_of_ble_eq_true rfl)) sh_83 g2 rfl dX7_add_19 eM3 ?_
    refine v_aload_n (pc := 20) 0 hX dX7_add_20 rfl ?_
    refine v_getR (pc := 21) (t := 84) hX (hcs 82 (Nat.le_of_ble_eq_true rfl) (Nat.le_of_ble_eq_true rfl)) sh_82 fl_7_15 rfl dX7_add_21 ?_
    refine v_iconst (pc := 24) hX dX7_add_24 ic_3 ?_
    refine v_aload_n (pc := 25) 0 hX dX7_add_25 rfl ?_
    refine v_getI (pc := 26) hX (hcs 82 (Nat.le_of_ble_eq_true rfl) (Nat.le_of_ble_eq_true rfl)) sh_82 fl_7_18 rfl dX7_add_26 ?_
    refine v_imul (pc := 29) hX dX7_add_29 ?_
    refine v_iload_n (pc := 30) 2 hX dX7_add_30 rfl ?_
    obtain ⟨g4, h⟩ := gd_e h
    obtain ⟨M5, eM5, h⟩ := bd_e h
    refine v_iast (pc := 31) hX (hcs 84 (Nat.le_of_ble_eq_true rfl) (Nat.le_of_ble_eq_true rfl)) sh_84 g4 rfl dX7_add_31 eM5 ?_
    refine v_aload_n (pc := 32) 0 hX dX7_add_32 rfl ?_
    refine v_getR (pc := 33) (t := 84) hX (hcs 82 (Nat.le_of_ble_eq_true rfl) (Nat.le_of_ble_eq_true rfl)) sh_82 fl_7_15 rfl dX7_add_33 ?_
    refine v_iconst (pc := 36) hX dX7_add_36 ic_3 ?_
    refine v_aload_n (pc := 37) 0 hX dX7_add_37 rfl ?_
    refine v_getI (pc := 38) hX (hcs 82 (Nat.le_of_ble_eq_true rfl) (Nat.le_of_ble_eq_true rfl)) sh_82 fl_7_18 rfl dX7_add_38 ?_
    refine v_imul (pc := 41) hX dX7_add_41 ?_
    refine v_iconst (pc := 42) hX dX7_add_42 ic_1 ?_
    refine v_iadd (pc := 43) hX dX7_add_43 ?_
    refine v_iload_n (pc := 44) 3 hX dX7_add_44 rfl ?_
    obtain ⟨g6, h⟩ := gd_e h
    obtain ⟨M7, eM7, h⟩ := bd_e h
    refine v_iast (pc := 45) hX (hcs 84 (Nat.le_of_ble_eq_true rfl) (Nat.le_of_ble_eq_true rfl)) sh_84 g6 rfl dX7_add_45 eM7 ?_
    refine v_aload_n (pc := 46) 0 hX dX7_add_46 rfl ?_
    refine v_getR (pc := 47) (t := 84) hX (hcs 82 (Nat.le_of_ble_eq_true rfl) (Nat.le_of_ble_eq_true rfl)) sh_82 fl_7_15 rfl dX7_add_47 ?_
    refine v_iconst (pc := 50) hX dX7_add_50 ic_3 ?_
    refine v_aload_n (pc := 51) 0 hX dX7_add_51 rfl ?_
    refine v_getI (pc := 52) hX (hcs 82 (Nat.le_of_ble_eq_true rfl) (Nat.le_of_ble_eq_true rfl)) sh_82 fl_7_18 rfl dX7_add_52 ?_
    refine v_imul (pc := 55) hX dX7_add_55 ?_
    refine v_iconst (pc := 56) hX dX7_add_56 ic_2 ?_
    refine v_iadd (pc := 57) hX dX7_add_57 ?_
    refine v_iload (pc := 58) 4 hX dX7_add_58 rfl ?_
    obtain ⟨g8, h⟩ := gd_e h
    obtain ⟨M9, eM9, h⟩ := bd_e h
    refine v_iast (pc := 60) hX (hcs 84 (Nat.le_of_ble_eq_true rfl) (Nat.le_of_ble_eq_true rfl)) sh_84 g8 rfl dX7_add_60 eM9 ?_
    refine v_aload_n (pc := 61) 0 hX dX7_add_61 rfl ?_
    refine v_dup (pc := 62) hX dX7_add_62 rfl ?_
    refine v_getI (pc := 63) hX (hcs 82 (Nat.le_of_ble_eq_true rfl) (Nat.le_of_ble_eq_true rfl)) sh_82 fl_7_18 rfl dX7_add_63 ?_
    refine v_iconst (pc := 66) hX dX7_add_66 ic_1 ?_
    refine v_iadd (pc := 67) hX dX7_add_67 ?_
    obtain ⟨M10, eM10, h⟩ := bd_e h
    refine v_putI (pc := 68) hX (hcs 82 (Nat.le_of_ble_eq_true rfl) (Nat.le_of_ble_eq_true rfl)) sh_82 pl_7_18 rfl dX7_add_68 eM10 ?_
    obtain rfl := Option.some.inj h
    exact v_vret (pc := 71) hX hR dX7_add_71
  · have h := if_f h h1
    obtain rfl := Option.some.inj h
    exact v_vret (pc := 9) hX hR dX7_add_9
set_option maxHeartbeats 4000000 in
set_option maxRecDepth 100000 in
theorem c_X8_endTerm {ad : Nat → Nat} {cs : List Nat} (hcs : ∀ k, 80 ≤ k → k < 86 → k ∈ cs) (M : Mm) (q : Mm) (h : fX8_endTerm M = some q) : CT ad cs yX8_endTerm cX8_endTerm 2 none 1 24 [.ref (ad 80)] M none q := by
  refine CT.of RX8 (by decide +kernel) rfl (Nat.le_of_ble_eq_true rfl) (fun X hX hR => ?_)
  unfold fX8_endTerm at h
  show VV X 2 ad cs M 0 [(0, .ref (ad 80))] []
  refine v_aload_n (pc := 0) 0 hX dX8_endTerm_0 rfl ?_
  refine v_getI (pc := 1) hX (hcs 80 (Nat.le_of_ble_eq_true rfl) (Nat.le_of_ble_eq_true rfl)) sh_80 fl_8_70 rfl dX8_endTerm_1 ?_
  obtain ⟨k1, ek1, h⟩ := bd_e h
  have K2 : ∀ (x3 : Int32), k1 x3 = some q → VV X 2 ad cs M 15 [(0, .ref (ad 80))] [.int x3] := by
    intro x3 h
    subst ek1
    refine v_istore_n (pc := 15) [(1, .int x3), (0, .ref (ad 80))] hX dX8_endTerm_15 (by decide) rfl ?_
    refine v_aload_n (pc := 16) 1 hX dX8_endTerm_16 rfl ?_
    refine v_getR (pc := 17) (t := 82) hX (hcs 80 (Nat.le_of_ble_eq_true rfl) (Nat.le_of_ble_eq_true rfl)) sh_80 fl_8_18 rfl dX8_endTerm_17 ?_
    refine v_aload_n (pc := 20) 1 hX dX8_endTerm_20 rfl ?_
    refine v_getI (pc := 21) hX (hcs 80 (Nat.le_of_ble_eq_true rfl) (Nat.le_of_ble_eq_true rfl)) sh_80 fl_8_80 rfl dX8_endTerm_21 ?_
    obtain ⟨k4, ek4, h⟩ := bd_e h
    have K5 : ∀ (x6 : Int32), k4 x6 = some q → VV X 2 ad cs M 33 [(0, .ref (ad 80))] [.int x6, .ref (ad 82)] := by
      intro x6 h
      subst ek4
      refine v_aload_n (pc := 33) 0 hX dX8_endTerm_33 rfl ?_
      refine v_getR (pc := 34) (t := 85) hX (hcs 80 (Nat.le_of_ble_eq_true rfl) (Nat.le_of_ble_eq_true rfl)) sh_80 fl_8_22 rfl dX8_endTerm_34 ?_
      refine v_iconst (pc := 37) hX dX8_endTerm_37 ic_0 ?_
      refine v_iald (pc := 38) hX (hcs 85 (Nat.le_of_ble_eq_true rfl) (Nat.le_of_ble_eq_true rfl)) sh_85 (ib_0 (by decide)) ix_0 dX8_endTerm_38 ?_
      refine v_aload_n (pc := 39) 0 hX dX8_endTerm_39 rfl ?_
      refine v_getR (pc := 40) (t := 85) hX (hcs 80 (Nat.le_of_ble_eq_true rfl) (Nat.le_of_ble_eq_true rfl)) sh_80 fl_8_22 rfl dX8_endTerm_40 ?_
      refine v_iconst (pc := 43) hX dX8_endTerm_43 ic_1 ?_
      refine v_iald (pc := 44) hX (hcs 85 (Nat.le_of_ble_eq_true rfl) (Nat.le_of_ble_eq_true rfl)) sh_85 (ib_1 (by decide)) ix_1 dX8_endTerm_44 ?_
      refine v_aload_n (pc := 45) 0 hX dX8_endTerm_45 rfl ?_
      refine v_getR (pc := 46) (t := 85) hX (hcs 80 (Nat.le_of_ble_eq_true rfl) (Nat.le_of_ble_eq_true rfl)) sh_80 fl_8_22 rfl dX8_endTerm_46 ?_
      refine v_iconst (pc := 49) hX dX8_endTerm_49 ic_2 ?_
      refine v_iald (pc := 50) hX (hcs 85 (Nat.le_of_ble_eq_true rfl) (Nat.le_of_ble_eq_true rfl)) sh_85 (ib_2 (by decide)) ix_2 dX8_endTerm_50 ?_
      obtain ⟨M8, h7, h⟩ := b1_e h
      refine v_callV (pc := 51) [.int x6, .int (M.1 85 0), .int (M.1 85 1), .int (M.1 85 2)] none M8 hX cv_8_87 (c_X7_add_82 (sub_cs hcs (Nat.le_of_ble_eq_true rfl) (Nat.le_of_ble_eq_true rfl)) M x6 (M.1 85 0) (M.1 85 1) (M.1 85 2) M8 h7) (hcs 82 (Nat.le_of_ble_eq_true rfl) (Nat.le_of_ble_eq_true rfl)) sh_82 rfl rfl rfl ⟨Nat.le_of_ble_eq_true rfl, Nat.le_of_ble_eq_true rfl⟩ (Nat.le_of_ble_eq_true rfl) dX8_endTerm_51 ?_
      show VV X 2 ad cs M8 54 [(0, .ref (ad 80))] []
      obtain rfl := Option.some.inj h
      exact v_vret (pc := 54) hX hR dX8_endTerm_54
    refine v_if_eq (pc := 24) (tgt := 32) hX dX8_endTerm_24 (by decide) (fun h9 => ?_) (fun h9 => ?_)
    · have h := if_t h h9
      refine v_iload_n (pc := 32) 0 hX dX8_endTerm_32 rfl ?_
      exact v_sub [1] rfl (K5 x3 h)
    · have h := if_f h h9
      refine v_iload_n (pc := 27) 0 hX dX8_endTerm_27 rfl ?_
      refine v_ineg (pc := 28) hX dX8_endTerm_28 ?_
      refine v_goto (pc := 29) (tgt := 33) hX dX8_endTerm_29 (by decide) ?_
      exact v_sub [1] rfl (K5 (-x3) h)
  refine v_if_ne (pc := 4) (tgt := 11) hX dX8_endTerm_4 (by decide) (fun h10 => ?_) (fun h10 => ?_)
  · have h := if_f h h10
    refine v_aload_n (pc := 11) 0 hX dX8_endTerm_11 rfl ?_
    refine v_getI (pc := 12) hX (hcs 80 (Nat.le_of_ble_eq_true rfl) (Nat.le_of_ble_eq_true rfl)) sh_80 fl_8_73 rfl dX8_endTerm_12 ?_
    exact v_sub [0] rfl (K2 (M.1 80 7) h)
  · have h := if_t h h10
    refine v_iconst (pc := 7) hX dX8_endTerm_7 ic_1 ?_
    refine v_goto (pc := 8) (tgt := 15) hX dX8_endTerm_8 (by decide) ?_
    exact v_sub [0] rfl (K2 1 h)
