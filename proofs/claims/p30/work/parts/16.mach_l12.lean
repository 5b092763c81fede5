set_option maxHeartbeats 4000000 in
set_option maxRecDepth 100000 in
theorem c_X10_searchOf {ad : Nat → Nat} {cs : List Nat} (hcs : ∀ k, 0 ≤ k → k < 13 → k ∈ cs) (M : Mm) (w1 : Int32) (q : Int32) (h : fX10_searchOf M w1 = some q) : CT ad cs yX10_searchOf cX10_searchOf 2 (some .int) 1 20 [.ref (ad 0), .int w1] M (some (.int q)) M := by
  refine CT.of RX10 (by decide +kernel) rfl (Nat.le_of_ble_eq_true rfl) (fun X hX hR => ?_)
  unfold fX10_searchOf at h
  show VV X 2 ad cs M 0 [(0, .ref (ad 0)), (1, .int w1)] []
  refine v_iload_n (pc := 0) 1 hX dX10_searchOf_0 rfl ?_
  by_cases h1 : w1 = 0
  · have h := if_t h h1
    refine v_tableIn (pc := 1) (tgt := 56) (off := 55) hX dX10_searchOf_1 (by rw [h1]; decide) (by rw [h1]; decide) (by rw [h1]; decide) (by decide) ?_
    refine v_aload_n (pc := 56) 0 hX dX10_searchOf_56 rfl ?_
    refine v_getR (pc := 57) (t := 1) hX (hcs 0 (Nat.le_of_ble_eq_true rfl) (Nat.le_of_ble_eq_true rfl)) sh_0 fl_10_10 rfl dX10_searchOf_57 ?_
    refine v_getR (pc := 60) (t := 11) hX (hcs 1 (Nat.le_of_ble_eq_true rfl) (Nat.le_of_ble_eq_true rfl)) sh_1 fl_10_139 rfl dX10_searchOf_60 ?_
    refine v_getR (pc := 63) (t := 12) hX (hcs 11 (Nat.le_of_ble_eq_true rfl) (Nat.le_of_ble_eq_true rfl)) sh_11 fl_10_188 rfl dX10_searchOf_63 ?_
    refine v_iload_n (pc := 66) 1 hX dX10_searchOf_66 rfl ?_
    obtain ⟨g2, h⟩ := gd_e h
    refine v_iald (pc := 67) hX (hcs 12 (Nat.le_of_ble_eq_true rfl) (Nat.le_of_ble_eq_true rfl)) sh_12 g2 rfl dX10_searchOf_67 ?_
    obtain rfl := Option.some.inj h
    exact v_iret (pc := 68) hX hR dX10_searchOf_68
  · have h := if_f h h1
    by_cases h3 : w1 = 1
    · have h := if_t h h3
      refine v_tableIn (pc := 1) (tgt := 56) (off := 55) hX dX10_searchOf_1 (by rw [h3]; decide) (by rw [h3]; decide) (by rw [h3]; decide) (by decide) ?_
      refine v_aload_n (pc := 56) 0 hX dX10_searchOf_56 rfl ?_
      refine v_getR (pc := 57) (t := 1) hX (hcs 0 (Nat.le_of_ble_eq_true rfl) (Nat.le_of_ble_eq_true rfl)) sh_0 fl_10_10 rfl dX10_searchOf_57 ?_
      refine v_getR (pc := 60) (t := 11) hX (hcs 1 (Nat.le_of_ble_eq_true rfl) (Nat.le_of_ble_eq_true rfl)) sh_1 fl_10_139 rfl dX10_searchOf_60 ?_
      refine v_getR (pc := 63) (t := 12) hX (hcs 11 (Nat.le_of_ble_eq_true rfl) (Nat.le_of_ble_eq_true rfl)) sh_11 fl_10_188 rfl dX10_searchOf_63 ?_
      refine v_iload_n (pc := 66) 1 hX dX10_searchOf_66 rfl ?_
      obtain ⟨g4, h⟩ := gd_e h
      refine v_iald (pc := 67) hX (hcs 12 (Nat.le_of_ble_eq_true rfl) (Nat.le_of_ble_eq_true rfl)) sh_12 g4 rfl dX10_searchOf_67 ?_
      obtain rfl := Option.some.inj h
      exact v_iret (pc := 68) hX hR dX10_searchOf_68
    · have h := if_f h h3
      by_cases h5 : w1 = 2
      · have h := if_t h h5
        refine v_tableIn (pc := 1) (tgt := 56) (off := 55) hX dX10_searchOf_1 (by rw [h5]; decide) (by rw [h5]; decide) (by rw [h5]; decide) (by decide) ?_
        refine v_aload_n (pc := 56) 0 hX dX10_searchOf_56 rfl ?_
        refine v_getR (pc := 57) (t := 1) hX (hcs 0 (Nat.le_of_ble_eq_true rfl) (Nat.le_of_ble_eq_true rfl)) sh_0 fl_10_10 rfl dX10_searchOf_57 ?_
        refine v_getR (pc := 60) (t := 11) hX (hcs 1 (Nat.le_of_ble_eq_true rfl) (Nat.le_of_ble_eq_true rfl)) sh_1 fl_10_139 rfl dX10_searchOf_60 ?_
        refine v_getR (pc := 63) (t := 12) hX (hcs 11 (Nat.le_of_ble_eq_true rfl) (Nat.le_of_ble_eq_true rfl)) sh_11 fl_10_188 rfl dX10_searchOf_63 ?_
        refine v_iload_n (pc := 66) 1 hX dX10_searchOf_66 rfl ?_
        obtain ⟨g6, h⟩ := gd_e h
        refine v_iald (pc := 67) hX (hcs 12 (Nat.le_of_ble_eq_true rfl) (Nat.le_of_ble_eq_true rfl)) sh_12 g6 rfl dX10_searchOf_67 ?_
        obtain rfl := Option.some.inj h
        exact v_iret (pc := 68) hX hR dX10_searchOf_68
      · have h := if_f h h5
        by_cases h7 : w1 = 3
        · have h := if_t h h7
          refine v_tableIn (pc := 1) (tgt := 69) (off := 68) hX dX10_searchOf_1 (by rw [h7]; decide) (by rw [h7]; decide) (by rw [h7]; decide) (by decide) ?_
          refine v_aload_n (pc := 69) 0 hX dX10_searchOf_69 rfl ?_
          refine v_getR (pc := 70) (t := 1) hX (hcs 0 (Nat.le_of_ble_eq_true rfl) (Nat.le_of_ble_eq_true rfl)) sh_0 fl_10_10 rfl dX10_searchOf_70 ?_
          refine v_getR (pc := 73) (t := 11) hX (hcs 1 (Nat.le_of_ble_eq_true rfl) (Nat.le_of_ble_eq_true rfl)) sh_1 fl_10_139 rfl dX10_searchOf_73 ?_
          refine v_getI (pc := 76) hX (hcs 11 (Nat.le_of_ble_eq_true rfl) (Nat.le_of_ble_eq_true rfl)) sh_11 fl_10_191 rfl dX10_searchOf_76 ?_
          obtain rfl := Option.some.inj h
          exact v_iret (pc := 79) hX hR dX10_searchOf_79
        · have h := if_f h h7
          by_cases h8 : w1 = 4
          · have h := if_t h h8
            refine v_tableIn (pc := 1) (tgt := 80) (off := 79) hX dX10_searchOf_1 (by rw [h8]; decide) (by rw [h8]; decide) (by rw [h8]; decide) (by decide) ?_
            refine v_aload_n (pc := 80) 0 hX dX10_searchOf_80 rfl ?_
            refine v_getR (pc := 81) (t := 1) hX (hcs 0 (Nat.le_of_ble_eq_true rfl) (Nat.le_of_ble_eq_true rfl)) sh_0 fl_10_10 rfl dX10_searchOf_81 ?_
            refine v_getR (pc := 84) (t := 11) hX (hcs 1 (Nat.le_of_ble_eq_true rfl) (Nat.le_of_ble_eq_true rfl)) sh_1 fl_10_139 rfl dX10_searchOf_84 ?_
            refine v_getI (pc := 87) hX (hcs 11 (Nat.le_of_ble_eq_true rfl) (Nat.le_of_ble_eq_true rfl)) sh_11 fl_10_194 rfl dX10_searchOf_87 ?_
            obtain rfl := Option.some.inj h
            exact v_iret (pc := 90) hX hR dX10_searchOf_90
          · have h := if_f h h8
            by_cases h9 : w1 = 5
            · have h := if_t h h9
              refine v_tableIn (pc := 1) (tgt := 91) (off := 90) hX dX10_searchOf_1 (by rw [h9]; decide) (by rw [h9]; decide) (by rw [h9]; decide) (by decide) ?_
              refine v_aload_n (pc := 91) 0 hX dX10_searchOf_91 rfl ?_
              refine v_getR (pc := 92) (t := 1) hX (hcs 0 (Nat.le_of_ble_eq_true rfl) (Nat.le_of_ble_eq_true rfl)) sh_0 fl_10_10 rfl dX10_searchOf_92 ?_
              refine v_getR (pc := 95) (t := 11) hX (hcs 1 (Nat.le_of_ble_eq_true rfl) (Nat.le_of_ble_eq_true rfl)) sh_1 fl_10_139 rfl dX10_searchOf_95 ?_
              refine v_getI (pc := 98) hX (hcs 11 (Nat.le_of_ble_eq_true rfl) (Nat.le_of_ble_eq_true rfl)) sh_11 fl_10_197 rfl dX10_searchOf_98 ?_
              obtain rfl := Option.some.inj h
              exact v_iret (pc := 101) hX hR dX10_searchOf_101
            · have h := if_f h h9
              by_cases h10 : w1 = 6
              · have h := if_t h h10
                refine v_tableIn (pc := 1) (tgt := 102) (off := 101) hX dX10_searchOf_1 (by rw [h10]; decide) (by rw [h10]; decide) (by rw [h10]; decide) (by decide) ?_
                refine v_aload_n (pc := 102) 0 hX dX10_searchOf_102 rfl ?_
                refine v_getR (pc := 103) (t := 1) hX (hcs 0 (Nat.le_of_ble_eq_true rfl) (Nat.le_of_ble_eq_true rfl)) sh_0 fl_10_10 rfl dX10_searchOf_103 ?_
                refine v_getR (pc := 106) (t := 11) hX (hcs 1 (Nat.le_of_ble_eq_true rfl) (Nat.le_of_ble_eq_true rfl)) sh_1 fl_10_139 rfl dX10_searchOf_106 ?_
                refine v_getI (pc := 109) hX (hcs 11 (Nat.le_of_ble_eq_true rfl) (Nat.le_of_ble_eq_true rfl)) sh_11 fl_10_200 rfl dX10_searchOf_109 ?_
                obtain rfl := Option.some.inj h
                exact v_iret (pc := 112) hX hR dX10_searchOf_112
              · have h := if_f h h10
                by_cases h11 : w1 = 7
                · have h := if_t h h11
                  refine v_tableIn (pc := 1) (tgt := 113) (off := 112) hX dX10_searchOf_1 (by rw [h11]; decide) (by rw [h11]; decide) (by rw [h11]; decide) (by decide) ?_
                  refine v_aload_n (pc := 113) 0 hX dX10_searchOf_113 rfl ?_
                  refine v_getR (pc := 114) (t := 1) hX (hcs 0 (Nat.le_of_ble_eq_true rfl) (Nat.le_of_ble_eq_true rfl)) sh_0 fl_10_10 rfl dX10_searchOf_114 ?_
                  refine v_getR (pc := 117) (t := 11) hX (hcs 1 (Nat.le_of_ble_eq_true rfl) (Nat.le_of_ble_eq_true rfl)) sh_1 fl_10_139 rfl dX10_searchOf_117 ?_
                  refine v_getI (pc := 120) hX (hcs 11 (Nat.le_of_ble_eq_true rfl) (Nat.le_of_ble_eq_true rfl)) sh_11 fl_10_203 rfl dX10_searchOf_120 ?_
                  refine v_iconst (pc := 123) hX dX10_searchOf_123 ic_m1 ?_
                  refine v_icmp_ne (pc := 124) (tgt := 132) hX dX10_searchOf_124 (by decide) (fun h12 => ?_) (fun h12 => ?_)
                  · have h := if_f h h12
                    refine v_aload_n (pc := 132) 0 hX dX10_searchOf_132 rfl ?_
                    refine v_getR (pc := 133) (t := 1) hX (hcs 0 (Nat.le_of_ble_eq_true rfl) (Nat.le_of_ble_eq_true rfl)) sh_0 fl_10_10 rfl dX10_searchOf_133 ?_
                    refine v_getR (pc := 136) (t := 11) hX (hcs 1 (Nat.le_of_ble_eq_true rfl) (Nat.le_of_ble_eq_true rfl)) sh_1 fl_10_139 rfl dX10_searchOf_136 ?_
                    refine v_getI (pc := 139) hX (hcs 11 (Nat.le_of_ble_eq_true rfl) (Nat.le_of_ble_eq_true rfl)) sh_11 fl_10_203 rfl dX10_searchOf_139 ?_
                    obtain rfl := Option.some.inj h
                    exact v_iret (pc := 142) hX hR dX10_searchOf_142
                  · have h := if_t h h12
                    refine v_ldc (pc := 127) hX kc_10_178 dX10_searchOf_127 ?_
                    refine v_goto (pc := 129) (tgt := 142) hX dX10_searchOf_129 (by decide) ?_
                    obtain rfl := Option.some.inj h
                    exact v_iret (pc := 142) hX hR dX10_searchOf_142
                · have h := if_f h h11
                  by_cases h13 : w1 = 8
                  · have h := if_t h h13
                    refine v_tableIn (pc := 1) (tgt := 143) (off := 142) hX dX10_searchOf_1 (by rw [h13]; decide) (by rw [h13]; decide) (by rw [h13]; decide) (by decide) ?_
                    refine v_aload_n (pc := 143) 0 hX dX10_searchOf_143 rfl ?_
                    refine v_getR (pc := 144) (t := 1) hX (hcs 0 (Nat.le_of_ble_eq_true rfl) (Nat.le_of_ble_eq_true rfl)) sh_0 fl_10_10 rfl dX10_searchOf_144 ?_
                    refine v_getR (pc := 147) (t := 11) hX (hcs 1 (Nat.le_of_ble_eq_true rfl) (Nat.le_of_ble_eq_true rfl)) sh_1 fl_10_139 rfl dX10_searchOf_147 ?_
                    refine v_getI (pc := 150) hX (hcs 11 (Nat.le_of_ble_eq_true rfl) (Nat.le_of_ble_eq_true rfl)) sh_11 fl_10_206 rfl dX10_searchOf_150 ?_
                    obtain rfl := Option.some.inj h
                    exact v_iret (pc := 153) hX hR dX10_searchOf_153
                  · have h := if_f h h13
                    by_cases h14 : w1 = 9
                    · have h := if_t h h14
                      refine v_tableIn (pc := 1) (tgt := 154) (off := 153) hX dX10_searchOf_1 (by rw [h14]; decide) (by rw [h14]; decide) (by rw [h14]; decide) (by decide) ?_
                      refine v_aload_n (pc := 154) 0 hX dX10_searchOf_154 rfl ?_
                      refine v_getR (pc := 155) (t := 1) hX (hcs 0 (Nat.le_of_ble_eq_true rfl) (Nat.le_of_ble_eq_true rfl)) sh_0 fl_10_10 rfl dX10_searchOf_155 ?_
                      refine v_getR (pc := 158) (t := 11) hX (hcs 1 (Nat.le_of_ble_eq_true rfl) (Nat.le_of_ble_eq_true rfl)) sh_1 fl_10_139 rfl dX10_searchOf_158 ?_
                      refine v_getI (pc := 161) hX (hcs 11 (Nat.le_of_ble_eq_true rfl) (Nat.le_of_ble_eq_true rfl)) sh_11 fl_10_167 rfl dX10_searchOf_161 ?_
                      obtain ⟨x16, h15, h⟩ := b1_e h
                      refine v_callS (pc := 164) [.int (M.1 11 8)] (some (.int x16)) M hX cv_10_121 (c_X10_oneIf M (M.1 11 8) x16 h15) rfl rfl ⟨Nat.le_of_ble_eq_true rfl, Nat.le_of_ble_eq_true rfl⟩ (Nat.le_of_ble_eq_true rfl) dX10_searchOf_164 ?_
                      show VV X 2 ad cs M 167 [(0, .ref (ad 0)), (1, .int w1)] [.int x16]
                      obtain rfl := Option.some.inj h
                      exact v_iret (pc := 167) hX hR dX10_searchOf_167
                    · have h := if_f h h14
                      have sw1 : w1.toInt < 0 ∨ 9 < w1.toInt := by
                        have q0 := lv_neT h1 (a := 0) (by decide)
                        have q1 := lv_neT h3 (a := 1) (by decide)
                        have q2 := lv_neT h5 (a := 2) (by decide)
                        have q3 := lv_neT h7 (a := 3) (by decide)
                        have q4 := lv_neT h8 (a := 4) (by decide)
                        have q5 := lv_neT h9 (a := 5) (by decide)
                        have q6 := lv_neT h10 (a := 6) (by decide)
                        have q7 := lv_neT h11 (a := 7) (by decide)
                        have q8 := lv_neT h13 (a := 8) (by decide)
                        have q9 := lv_neT h14 (a := 9) (by decide)
                        omega
                      refine v_tableOut (pc := 1) (tgt := 168) hX dX10_searchOf_1 sw1 (by decide) ?_
                      refine v_ldc (pc := 168) hX kc_10_66 dX10_searchOf_168 ?_
                      obtain rfl := Option.some.inj h
                      exact v_iret (pc := 170) hX hR dX10_searchOf_170
set_option maxHeartbeats 4000000 in
set_option maxRecDepth 100000 in
theorem c_X7_raised {ad : Nat → Nat} {cs : List Nat} (M : Mm) (w0 : Int32) (w1 : Int32) (q : Int64) (h : fX7_raised w0 w1 = some q) : CT ad cs yX7_raised cX7_raised 5 (some .long) 0 0 [.int w0, .int w1] M (some (.long q)) M := by
  refine CT.of RX7 (by decide +kernel) rfl (Nat.le_of_ble_eq_true rfl) (fun X hX hR => ?_)
  unfold fX7_raised at h
  show VV X 5 ad cs M 0 [(0, .int w0), (1, .int w1)] []
  refine v_lconst (v := 1) (pc := 0) hX dX7_raised_0 (by decide) ?_
  refine v_lstore_n (pc := 1) [(2, .long 1), (0, .int w0), (1, .int w1)] hX dX7_raised_1 (by decide) rfl ?_
  refine v_iconst (pc := 2) hX dX7_raised_2 ic_0 ?_
  refine v_istore (pc := 3) [(4, .int 0), (2, .long 1), (0, .int w0), (1, .int w1)] hX dX7_raised_3 (by decide) rfl ?_
  have L6 := v_itr (fX7_raised_L5 w1 w0) (fun z => VV X 5 ad cs M 5 [(0, .int w0), (1, .int w1), (2, .long z.1), (4, .int z.2)] []) (fun z => VV X 5 ad cs M 22 [(2, .long z)] []) (by
    rintro ⟨y1, x2⟩ q h hK
    unfold fX7_raised_L5 at h
    have h := u2_b h
    show VV X 5 ad cs M 5 [(0, .int w0), (1, .int w1), (2, .long y1), (4, .int x2)] []
    refine v_iload (pc := 5) 3 hX dX7_raised_5 rfl ?_
    refine v_iload_n (pc := 7) 1 hX dX7_raised_7 rfl ?_
    refine v_icmp_ge (pc := 8) (tgt := 22) hX dX7_raised_8 (by decide) (fun h3 => ?_) (fun h3 => ?_)
    · have h := if_t h h3
      obtain rfl := Option.some.inj h
      exact v_sub [2] rfl hK
    · have h := if_f h h3
      refine v_lload_n (pc := 11) 2 hX dX7_raised_11 rfl ?_
      refine v_iload_n (pc := 12) 0 hX dX7_raised_12 rfl ?_
      refine v_i2l (pc := 13) hX dX7_raised_13 ?_
      refine v_lmul (pc := 14) hX dX7_raised_14 ?_
      obtain ⟨y4, ey4, h⟩ := bd_e h
      refine v_topl ey4 ?_
      refine v_lstore_n (pc := 15) [(2, .long y4), (0, .int w0), (1, .int w1), (4, .int x2)] hX dX7_raised_15 (by decide) rfl ?_
      obtain ⟨x5, ex5, h⟩ := bd_e h
      refine v_iinc (v := x5) (pc := 16) 3 [(4, .int x5), (2, .long y4), (0, .int w0), (1, .int w1)] hX dX7_raised_16 rfl (ex5.trans (by rw [ic_1])) (by decide) rfl ?_
      refine v_goto (pc := 19) (tgt := 5) hX dX7_raised_19 (by decide) ?_
      obtain rfl := Option.some.inj h
      exact v_sub [2, 3, 1, 0] rfl hK
  )
  obtain ⟨y7, h8, h⟩ := b1_e h
  refine v_sub [2, 3, 1, 0] rfl ?_
  refine L6 1000 _ _ h8 ?_
  show VV X 5 ad cs M 22 [(2, .long y7)] []
  refine v_lload_n (pc := 22) 0 hX dX7_raised_22 rfl ?_
  obtain rfl := Option.some.inj h
  exact v_lret (pc := 23) hX hR dX7_raised_23
set_option maxHeartbeats 4000000 in
set_option maxRecDepth 100000 in
theorem c_X7_sumAt {ad : Nat → Nat} {cs : List Nat} (hcs : ∀ k, 2 ≤ k → k < 5 → k ∈ cs) (M : Mm) (w1 : Int32) (w2 : Int32) (w3 : Int32) (w4 : Int32) (q : Int64) (h : fX7_sumAt M w1 w2 w3 w4 = some q) : CT ad cs yX7_sumAt cX7_sumAt 10 (some .long) 1 24 [.ref (ad 2), .int w1, .int w2, .int w3, .int w4] M (some (.long q)) M := by
  refine CT.of RX7 (by decide +kernel) rfl (Nat.le_of_ble_eq_true rfl) (fun X hX hR => ?_)
  unfold fX7_sumAt at h
  show VV X 10 ad cs M 0 [(0, .ref (ad 2)), (1, .int w1), (2, .int w2), (3, .int w3), (4, .int w4)] []
  refine v_lconst (v := 0) (pc := 0) hX dX7_sumAt_0 (by decide) ?_
  refine v_lstore (pc := 1) [(5, .long 0), (0, .ref (ad 2)), (1, .int w1), (2, .int w2), (3, .int w3), (4, .int w4)] hX dX7_sumAt_1 (by decide) rfl ?_
  refine v_iconst (pc := 3) hX dX7_sumAt_3 ic_0 ?_
  refine v_istore (pc := 4) [(7, .int 0), (5, .long 0), (0, .ref (ad 2)), (1, .int w1), (2, .int w2), (3, .int w3), (4, .int w4)] hX dX7_sumAt_4 (by decide) rfl ?_
  have L22 := v_itr (fX7_sumAt_L6 M w4 w1 w2 w3) (fun z => VV X 10 ad cs M 6 [(0, .ref (ad 2)), (1, .int w1), (2, .int w2), (3, .int w3), (4, .int w4), (5, .long z.1), (7, .int z.2)] []) (fun z => VV X 10 ad cs M 116 [(5, .long z)] []) (by
    rintro ⟨y1, x2⟩ q h hK
    unfold fX7_sumAt_L6 at h
    have h := u2_b h
    show VV X 10 ad cs M 6 [(0, .ref (ad 2)), (1, .int w1), (2, .int w2), (3, .int w3), (4, .int w4), (5, .long y1), (7, .int x2)] []
    refine v_iload (pc := 6) 6 hX dX7_sumAt_6 rfl ?_
    refine v_aload_n (pc := 8) 0 hX dX7_sumAt_8 rfl ?_
    refine v_getI (pc := 9) hX (hcs 2 (Nat.le_of_ble_eq_true rfl) (Nat.le_of_ble_eq_true rfl)) sh_2 fl_7_18 rfl dX7_sumAt_9 ?_
    refine v_icmp_ge (pc := 12) (tgt := 116) hX dX7_sumAt_12 (by decide) (fun h3 => ?_) (fun h3 => ?_)
    · have h := if_t h h3
      obtain rfl := Option.some.inj h
      exact v_sub [5] rfl hK
    · have h := if_f h h3
      refine v_iconst (pc := 15) hX dX7_sumAt_15 ic_3 ?_
      refine v_iload (pc := 16) 6 hX dX7_sumAt_16 rfl ?_
      refine v_imul (pc := 18) hX dX7_sumAt_18 ?_
      obtain ⟨x4, ex4, h⟩ := bd_e h
      refine v_top ex4 ?_
      refine v_istore (pc := 19) [(8, .int x4), (0, .ref (ad 2)), (1, .int w1), (2, .int w2), (3, .int w3), (4, .int w4), (5, .long y1), (7, .int x2)] hX dX7_sumAt_19 (by decide) rfl ?_
      refine v_aload_n (pc := 21) 1 hX dX7_sumAt_21 rfl ?_
      refine v_getR (pc := 22) (t := 4) hX (hcs 2 (Nat.le_of_ble_eq_true rfl) (Nat.le_of_ble_eq_true rfl)) sh_2 fl_7_15 rfl dX7_sumAt_22 ?_
      refine v_iload (pc := 25) 0 hX dX7_sumAt_25 rfl ?_
      obtain ⟨g5, h⟩ := gd_e h
      refine v_iald (pc := 27) hX (hcs 4 (Nat.le_of_ble_eq_true rfl) (Nat.le_of_ble_eq_true rfl)) sh_4 g5 rfl dX7_sumAt_27 ?_
      refine v_aload_n (pc := 28) 1 hX dX7_sumAt_28 rfl ?_
      refine v_getR (pc := 29) (t := 4) hX (hcs 2 (Nat.le_of_ble_eq_true rfl) (Nat.le_of_ble_eq_true rfl)) sh_2 fl_7_15 rfl dX7_sumAt_29 ?_
      refine v_iload (pc := 32) 0 hX dX7_sumAt_32 rfl ?_
      refine v_iconst (pc := 34) hX dX7_sumAt_34 ic_1 ?_
      refine v_iadd (pc := 35) hX dX7_sumAt_35 ?_
      obtain ⟨g6, h⟩ := gd_e h
      refine v_iald (pc := 36) hX (hcs 4 (Nat.le_of_ble_eq_true rfl) (Nat.le_of_ble_eq_true rfl)) sh_4 g6 rfl dX7_sumAt_36 ?_
      refine v_iadd (pc := 37) hX dX7_sumAt_37 ?_
      refine v_aload_n (pc := 38) 1 hX dX7_sumAt_38 rfl ?_
      refine v_getR (pc := 39) (t := 4) hX (hcs 2 (Nat.le_of_ble_eq_true rfl) (Nat.le_of_ble_eq_true rfl)) sh_2 fl_7_15 rfl dX7_sumAt_39 ?_
      refine v_iload (pc := 42) 0 hX dX7_sumAt_42 rfl ?_
      refine v_iconst (pc := 44) hX dX7_sumAt_44 ic_2 ?_
      refine v_iadd (pc := 45) hX dX7_sumAt_45 ?_
      obtain ⟨g7, h⟩ := gd_e h
      refine v_iald (pc := 46) hX (hcs 4 (Nat.le_of_ble_eq_true rfl) (Nat.le_of_ble_eq_true rfl)) sh_4 g7 rfl dX7_sumAt_46 ?_
      refine v_iadd (pc := 47) hX dX7_sumAt_47 ?_
      obtain ⟨x8, ex8, h⟩ := bd_e h
      refine v_top ex8 ?_
      refine v_istore (pc := 48) [(9, .int x8), (8, .int x4), (0, .ref (ad 2)), (1, .int w1), (2, .int w2), (3, .int w3), (4, .int w4), (5, .long y1), (7, .int x2)] hX dX7_sumAt_48 (by decide) rfl ?_
      refine v_iload (pc := 50) 0 hX dX7_sumAt_50 rfl ?_
      refine v_iload (pc := 52) 6 hX dX7_sumAt_52 rfl ?_
      obtain ⟨k9, ek9, h⟩ := bd_e h
      have K10 : ∀ (y11 : Int64), k9 y11 = some q → VV X 10 ad cs M 110 [(0, .ref (ad 2)), (1, .int w1), (2, .int w2), (3, .int w3), (4, .int w4), (5, .long y11), (7, .int x2)] [] := by
        intro y11 h
        subst ek9
        obtain ⟨x12, ex12, h⟩ := bd_e h
        refine v_iinc (v := x12) (pc := 110) 6 [(7, .int x12), (0, .ref (ad 2)), (1, .int w1), (2, .int w2), (3, .int w3), (4, .int w4), (5, .long y11)] hX dX7_sumAt_110 rfl (ex12.trans (by rw [ic_1])) (by decide) rfl ?_
        refine v_goto (pc := 113) (tgt := 6) hX dX7_sumAt_113 (by decide) ?_
        obtain rfl := Option.some.inj h
        exact v_sub [1, 2, 3, 4, 5, 6, 0] rfl hK
      refine v_icmp_gt (pc := 54) (tgt := 110) hX dX7_sumAt_54 (by decide) (fun h13 => ?_) (fun h13 => ?_)
      · have h := if_t h h13
        exact v_sub [2, 3, 4, 5, 6, 7, 8] rfl (K10 y1 h)
      · have h := if_f h h13
        refine v_lload (pc := 57) 7 hX dX7_sumAt_57 rfl ?_
        refine v_aload_n (pc := 59) 2 hX dX7_sumAt_59 rfl ?_
        refine v_getR (pc := 60) (t := 3) hX (hcs 2 (Nat.le_of_ble_eq_true rfl) (Nat.le_of_ble_eq_true rfl)) sh_2 fl_7_9 rfl dX7_sumAt_60 ?_
        refine v_iload (pc := 63) 8 hX dX7_sumAt_63 rfl ?_
        obtain ⟨g14, h⟩ := gd_e h
        refine v_iald (pc := 65) hX (hcs 3 (Nat.le_of_ble_eq_true rfl) (Nat.le_of_ble_eq_true rfl)) sh_3 g14 rfl dX7_sumAt_65 ?_
        refine v_i2l (pc := 66) hX dX7_sumAt_66 ?_
        refine v_iload_n (pc := 67) 3 hX dX7_sumAt_67 rfl ?_
        refine v_aload_n (pc := 68) 2 hX dX7_sumAt_68 rfl ?_
        refine v_getR (pc := 69) (t := 4) hX (hcs 2 (Nat.le_of_ble_eq_true rfl) (Nat.le_of_ble_eq_true rfl)) sh_2 fl_7_15 rfl dX7_sumAt_69 ?_
        refine v_iload (pc := 72) 1 hX dX7_sumAt_72 rfl ?_
        refine v_iald (pc := 74) hX (hcs 4 (Nat.le_of_ble_eq_true rfl) (Nat.le_of_ble_eq_true rfl)) sh_4 g5 rfl dX7_sumAt_74 ?_
        obtain ⟨y16, h15, h⟩ := b1_e h
        refine v_callS (pc := 75) [.int w1, .int (M.1 4 (ix x4))] (some (.long y16)) M hX cv_7_32 (c_X7_raised M w1 (M.1 4 (ix x4)) y16 h15) rfl rfl ⟨Nat.le_of_ble_eq_true rfl, Nat.le_of_ble_eq_true rfl⟩ (Nat.le_of_ble_eq_true rfl) dX7_sumAt_75 ?_
        show VV X 10 ad cs M 78 [(9, .int x8), (8, .int x4), (0, .ref (ad 2)), (1, .int w1), (2, .int w2), (3, .int w3), (4, .int w4), (5, .long y1), (7, .int x2)] [.long y16, .long ((M.1 3 (ix x2)).toInt64), .long y1]
        refine v_lmul (pc := 78) hX dX7_sumAt_78 ?_
        refine v_iload_n (pc := 79) 4 hX dX7_sumAt_79 rfl ?_
        refine v_aload_n (pc := 80) 2 hX dX7_sumAt_80 rfl ?_
        refine v_getR (pc := 81) (t := 4) hX (hcs 2 (Nat.le_of_ble_eq_true rfl) (Nat.le_of_ble_eq_true rfl)) sh_2 fl_7_15 rfl dX7_sumAt_81 ?_
        refine v_iload (pc := 84) 1 hX dX7_sumAt_84 rfl ?_
        refine v_iconst (pc := 86) hX dX7_sumAt_86 ic_1 ?_
        refine v_iadd (pc := 87) hX dX7_sumAt_87 ?_
        refine v_iald (pc := 88) hX (hcs 4 (Nat.le_of_ble_eq_true rfl) (Nat.le_of_ble_eq_true rfl)) sh_4 g6 rfl dX7_sumAt_88 ?_
        obtain ⟨y18, h17, h⟩ := b1_e h
        refine v_callS (pc := 89) [.int w2, .int (M.1 4 (ix (x4 + 1)))] (some (.long y18)) M hX cv_7_32 (c_X7_raised M w2 (M.1 4 (ix (x4 + 1))) y18 h17) rfl rfl ⟨Nat.le_of_ble_eq_true rfl, Nat.le_of_ble_eq_true rfl⟩ (Nat.le_of_ble_eq_true rfl) dX7_sumAt_89 ?_
        show VV X 10 ad cs M 92 [(9, .int x8), (8, .int x4), (0, .ref (ad 2)), (1, .int w1), (2, .int w2), (3, .int w3), (4, .int w4), (5, .long y1), (7, .int x2)] [.long y18, .long (((M.1 3 (ix x2)).toInt64) * y16), .long y1]
        refine v_lmul (pc := 92) hX dX7_sumAt_92 ?_
        refine v_iload_n (pc := 93) 5 hX dX7_sumAt_93 rfl ?_
        refine v_aload_n (pc := 94) 2 hX dX7_sumAt_94 rfl ?_
        refine v_getR (pc := 95) (t := 4) hX (hcs 2 (Nat.le_of_ble_eq_true rfl) (Nat.le_of_ble_eq_true rfl)) sh_2 fl_7_15 rfl dX7_sumAt_95 ?_
        refine v_iload (pc := 98) 1 hX dX7_sumAt_98 rfl ?_
        refine v_iconst (pc := 100) hX dX7_sumAt_100 ic_2 ?_
        refine v_iadd (pc := 101) hX dX7_sumAt_101 ?_
        refine v_iald (pc := 102) hX (hcs 4 (Nat.le_of_ble_eq_true rfl) (Nat.le_of_ble_eq_true rfl)) sh_4 g7 rfl dX7_sumAt_102 ?_
        obtain ⟨y20, h19, h⟩ := b1_e h
        refine v_callS (pc := 103) [.int w3, .int (M.1 4 (ix (x4 + 2)))] (some (.long y20)) M hX cv_7_32 (c_X7_raised M w3 (M.1 4 (ix (x4 + 2))) y20 h19) rfl rfl ⟨Nat.le_of_ble_eq_true rfl, Nat.le_of_ble_eq_true rfl⟩ (Nat.le_of_ble_eq_true rfl) dX7_sumAt_103 ?_
        show VV X 10 ad cs M 106 [(9, .int x8), (8, .int x4), (0, .ref (ad 2)), (1, .int w1), (2, .int w2), (3, .int w3), (4, .int w4), (5, .long y1), (7, .int x2)] [.long y20, .long ((((M.1 3 (ix x2)).toInt64) * y16) * y18), .long y1]
        refine v_lmul (pc := 106) hX dX7_sumAt_106 ?_
        refine v_ladd (pc := 107) hX dX7_sumAt_107 ?_
        obtain ⟨y21, ey21, h⟩ := bd_e h
        refine v_topl ey21 ?_
        refine v_lstore (pc := 108) [(5, .long y21), (9, .int x8), (8, .int x4), (0, .ref (ad 2)), (1, .int w1), (2, .int w2), (3, .int w3), (4, .int w4), (7, .int x2)] hX dX7_sumAt_108 (by decide) rfl ?_
        exact v_sub [3, 4, 5, 6, 7, 0, 8] rfl (K10 y21 h)
  )
  obtain ⟨y23, h24, h⟩ := b1_e h
  refine v_sub [2, 3, 4, 5, 6, 1, 0] rfl ?_
  refine L22 1000 _ _ h24 ?_
  show VV X 10 ad cs M 116 [(5, .long y23)] []
  refine v_lload (pc := 116) 0 hX dX7_sumAt_116 rfl ?_
  obtain rfl := Option.some.inj h
  exact v_lret (pc := 118) hX hR dX7_sumAt_118
set_option maxHeartbeats 4000000 in
set_option maxRecDepth 100000 in
theorem c_X3_consider {ad : Nat → Nat} {cs : List Nat} (hcs : ∀ k, 1 ≤ k → k < 92 → k ∈ cs) (M : Mm) (w2 : Int32) (w3 : Int32) (w4 : Int32) (q : Mm) (h : fX3_consider M w2 w3 w4 = some q) : CT ad cs yX3_consider cX3_consider 11 none 2 53 [.ref (ad 90), .ref (ad 1), .int w2, .int w3, .int w4] M none q := by
  refine CT.of RX3 (by decide +kernel) rfl (Nat.le_of_ble_eq_true rfl) (fun X hX hR => ?_)
  unfold fX3_consider at h
  show VV X 11 ad cs M 0 [(0, .ref (ad 90)), (1, .ref (ad 1)), (2, .int w2), (3, .int w3), (4, .int w4)] []
  refine v_aload_n (pc := 0) 1 hX dX3_consider_0 rfl ?_
  refine v_getR (pc := 1) (t := 11) hX (hcs 1 (Nat.le_of_ble_eq_true rfl) (Nat.le_of_ble_eq_true rfl)) sh_1 fl_3_31 rfl dX3_consider_1 ?_
  refine v_astore (pc := 4) [(5, .ref (ad 11)), (0, .ref (ad 90)), (1, .ref (ad 1)), (2, .int w2), (3, .int w3), (4, .int w4)] hX dX3_consider_4 (by decide) rfl ?_
  refine v_aload (pc := 6) 0 hX dX3_consider_6 rfl ?_
  refine v_getR (pc := 8) (t := 12) hX (hcs 11 (Nat.le_of_ble_eq_true rfl) (Nat.le_of_ble_eq_true rfl)) sh_11 fl_3_35 rfl dX3_consider_8 ?_
  refine v_iconst (pc := 11) hX dX3_consider_11 ic_0 ?_
  refine v_iald (pc := 12) hX (hcs 12 (Nat.le_of_ble_eq_true rfl) (Nat.le_of_ble_eq_true rfl)) sh_12 (ib_0 (by decide)) ix_0 dX3_consider_12 ?_
  refine v_iload_n (pc := 13) 3 hX dX3_consider_13 rfl ?_
  refine v_aload (pc := 14) 0 hX dX3_consider_14 rfl ?_
  refine v_getI (pc := 16) hX (hcs 11 (Nat.le_of_ble_eq_true rfl) (Nat.le_of_ble_eq_true rfl)) sh_11 fl_3_40 rfl dX3_consider_16 ?_
  refine v_imul (pc := 19) hX dX3_consider_19 ?_
  refine v_iadd (pc := 20) hX dX3_consider_20 ?_
  obtain ⟨x1, ex1, h⟩ := bd_e h
  refine v_top ex1 ?_
  refine v_istore (pc := 21) [(6, .int x1), (5, .ref (ad 11)), (0, .ref (ad 90)), (1, .ref (ad 1)), (2, .int w2), (3, .int w3), (4, .int w4)] hX dX3_consider_21 (by decide) rfl ?_
  refine v_aload (pc := 23) 1 hX dX3_consider_23 rfl ?_
  refine v_getR (pc := 25) (t := 12) hX (hcs 11 (Nat.le_of_ble_eq_true rfl) (Nat.le_of_ble_eq_true rfl)) sh_11 fl_3_35 rfl dX3_consider_25 ?_
  refine v_iconst (pc := 28) hX dX3_consider_28 ic_1 ?_
  refine v_iald (pc := 29) hX (hcs 12 (Nat.le_of_ble_eq_true rfl) (Nat.le_of_ble_eq_true rfl)) sh_12 (ib_1 (by decide)) ix_1 dX3_consider_29 ?_
  refine v_iload_n (pc := 30) 5 hX dX3_consider_30 rfl ?_
  refine v_aload (pc := 31) 1 hX dX3_consider_31 rfl ?_
  refine v_getI (pc := 33) hX (hcs 11 (Nat.le_of_ble_eq_true rfl) (Nat.le_of_ble_eq_true rfl)) sh_11 fl_3_40 rfl dX3_consider_33 ?_
  refine v_imul (pc := 36) hX dX3_consider_36 ?_
  refine v_iadd (pc := 37) hX dX3_consider_37 ?_
  obtain ⟨x2, ex2, h⟩ := bd_e h
  refine v_top ex2 ?_
  refine v_istore (pc := 38) [(7, .int x2), (6, .int x1), (5, .ref (ad 11)), (0, .ref (ad 90)), (1, .ref (ad 1)), (2, .int w2), (3, .int w3), (4, .int w4)] hX dX3_consider_38 (by decide) rfl ?_
  refine v_aload (pc := 40) 2 hX dX3_consider_40 rfl ?_
  refine v_getR (pc := 42) (t := 12) hX (hcs 11 (Nat.le_of_ble_eq_true rfl) (Nat.le_of_ble_eq_true rfl)) sh_11 fl_3_35 rfl dX3_consider_42 ?_
  refine v_iconst (pc := 45) hX dX3_consider_45 ic_2 ?_
  refine v_iald (pc := 46) hX (hcs 12 (Nat.le_of_ble_eq_true rfl) (Nat.le_of_ble_eq_true rfl)) sh_12 (ib_2 (by decide)) ix_2 dX3_consider_46 ?_
  refine v_iload (pc := 47) 7 hX dX3_consider_47 rfl ?_
  refine v_aload (pc := 49) 2 hX dX3_consider_49 rfl ?_
  refine v_getI (pc := 51) hX (hcs 11 (Nat.le_of_ble_eq_true rfl) (Nat.le_of_ble_eq_true rfl)) sh_11 fl_3_40 rfl dX3_consider_51 ?_
  refine v_imul (pc := 54) hX dX3_consider_54 ?_
  refine v_iadd (pc := 55) hX dX3_consider_55 ?_
  obtain ⟨x3, ex3, h⟩ := bd_e h
  refine v_top ex3 ?_
  refine v_istore (pc := 56) [(8, .int x3), (7, .int x2), (6, .int x1), (5, .ref (ad 11)), (0, .ref (ad 90)), (1, .ref (ad 1)), (2, .int w2), (3, .int w3), (4, .int w4)] hX dX3_consider_56 (by decide) rfl ?_
  refine v_aload_n (pc := 58) 5 hX dX3_consider_58 rfl ?_
  refine v_getR (pc := 59) (t := 5) hX (hcs 1 (Nat.le_of_ble_eq_true rfl) (Nat.le_of_ble_eq_true rfl)) sh_1 fl_3_43 rfl dX3_consider_59 ?_
  refine v_iload (pc := 62) 2 hX dX3_consider_62 rfl ?_
  refine v_iload (pc := 64) 1 hX dX3_consider_64 rfl ?_
  refine v_iload (pc := 66) 0 hX dX3_consider_66 rfl ?_
  obtain ⟨x5, h4, h⟩ := b1_e h
  refine v_callV (pc := 68) [.int x1, .int x2, .int x3] (some (.int x5)) M hX cv_3_47 (c_X0_allow (sub_cs hcs (Nat.le_of_ble_eq_true rfl) (Nat.le_of_ble_eq_true rfl)) M x1 x2 x3 x5 h4) (hcs 5 (Nat.le_of_ble_eq_true rfl) (Nat.le_of_ble_eq_true rfl)) sh_5 rfl rfl rfl ⟨Nat.le_of_ble_eq_true rfl, Nat.le_of_ble_eq_true rfl⟩ (Nat.le_of_ble_eq_true rfl) dX3_consider_68 ?_
  show VV X 11 ad cs M 71 [(8, .int x3), (7, .int x2), (6, .int x1), (5, .ref (ad 11)), (0, .ref (ad 90)), (1, .ref (ad 1)), (2, .int w2), (3, .int w3), (4, .int w4)] [.int x5]
  refine v_if_ne (pc := 71) (tgt := 75) hX dX3_consider_71 (by decide) (fun h6 => ?_) (fun h6 => ?_)
  · have h := if_f h h6
    refine v_aload_n (pc := 75) 5 hX dX3_consider_75 rfl ?_
    refine v_getR (pc := 76) (t := 2) hX (hcs 1 (Nat.le_of_ble_eq_true rfl) (Nat.le_of_ble_eq_true rfl)) sh_1 fl_3_53 rfl dX3_consider_76 ?_
    refine v_iload (pc := 79) 2 hX dX3_consider_79 rfl ?_
    refine v_iload (pc := 81) 1 hX dX3_consider_81 rfl ?_
    refine v_iload (pc := 83) 0 hX dX3_consider_83 rfl ?_
    refine v_iconst (pc := 85) hX dX3_consider_85 ic_4 ?_
    obtain ⟨y8, h7, h⟩ := b1_e h
    refine v_callV (pc := 86) [.int x1, .int x2, .int x3, .int 4] (some (.long y8)) M hX cv_3_57 (c_X7_sumAt (sub_cs hcs (Nat.le_of_ble_eq_true rfl) (Nat.le_of_ble_eq_true rfl)) M x1 x2 x3 4 y8 h7) (hcs 2 (Nat.le_of_ble_eq_true rfl) (Nat.le_of_ble_eq_true rfl)) sh_2 rfl rfl rfl ⟨Nat.le_of_ble_eq_true rfl, Nat.le_of_ble_eq_true rfl⟩ (Nat.le_of_ble_eq_true rfl) dX3_consider_86 ?_
    show VV X 11 ad cs M 89 [(8, .int x3), (7, .int x2), (6, .int x1), (5, .ref (ad 11)), (0, .ref (ad 90)), (1, .ref (ad 1)), (2, .int w2), (3, .int w3), (4, .int w4)] [.long y8]
    refine v_lstore (pc := 89) [(9, .long y8), (8, .int x3), (7, .int x2), (6, .int x1), (5, .ref (ad 11)), (0, .ref (ad 90)), (1, .ref (ad 1)), (2, .int w2), (3, .int w3), (4, .int w4)] hX dX3_consider_89 (by decide) rfl ?_
    refine v_lload (pc := 91) 0 hX dX3_consider_91 rfl ?_
    refine v_aload_n (pc := 93) 5 hX dX3_consider_93 rfl ?_
    refine v_getL (pc := 94) hX (hcs 90 (Nat.le_of_ble_eq_true rfl) (Nat.le_of_ble_eq_true rfl)) sh_90 fl_3_23 rfl dX3_consider_94 ?_
    refine v_lcmp (pc := 97) hX dX3_consider_97 ?_
    refine v_if_ge (pc := 98) (tgt := 131) hX dX3_consider_98 (by decide) (fun h9 => ?_) (fun h9 => ?_)
    · have h := if_t h h9
      obtain rfl := Option.some.inj h
      exact v_vret (pc := 131) hX hR dX3_consider_131
    · have h := if_f h h9
      refine v_aload_n (pc := 101) 5 hX dX3_consider_101 rfl ?_
      refine v_lload (pc := 102) 0 hX dX3_consider_102 rfl ?_
      obtain ⟨M10, eM10, h⟩ := bd_e h
      refine v_putL (pc := 104) hX (hcs 90 (Nat.le_of_ble_eq_true rfl) (Nat.le_of_ble_eq_true rfl)) sh_90 pl_3_23 rfl dX3_consider_104 eM10 ?_
      refine v_aload_n (pc := 107) 5 hX dX3_consider_107 rfl ?_
      refine v_getR (pc := 108) (t := 91) hX (hcs 90 (Nat.le_of_ble_eq_true rfl) (Nat.le_of_ble_eq_true rfl)) sh_90 fl_3_9 rfl dX3_consider_108 ?_
      refine v_iconst (pc := 111) hX dX3_consider_111 ic_0 ?_
      refine v_iload (pc := 112) 3 hX dX3_consider_112 rfl ?_
      obtain ⟨M11, eM11, h⟩ := bd_e h
      refine v_iast (pc := 114) hX (hcs 91 (Nat.le_of_ble_eq_true rfl) (Nat.le_of_ble_eq_true rfl)) sh_91 (ib_0 (by decide)) ix_0 dX3_consider_114 eM11 ?_
      refine v_aload_n (pc := 115) 5 hX dX3_consider_115 rfl ?_
      refine v_getR (pc := 116) (t := 91) hX (hcs 90 (Nat.le_of_ble_eq_true rfl) (Nat.le_of_ble_eq_true rfl)) sh_90 fl_3_9 rfl dX3_consider_116 ?_
      refine v_iconst (pc := 119) hX dX3_consider_119 ic_1 ?_
      refine v_iload (pc := 120) 2 hX dX3_consider_120 rfl ?_
      obtain ⟨M12, eM12, h⟩ := bd_e h
      refine v_iast (pc := 122) hX (hcs 91 (Nat.le_of_ble_eq_true rfl) (Nat.le_of_ble_eq_true rfl)) sh_91 (ib_1 (by decide)) ix_1 dX3_consider_122 eM12 ?_
      refine v_aload_n (pc := 123) 5 hX dX3_consider_123 rfl ?_
      refine v_getR (pc := 124) (t := 91) hX (hcs 90 (Nat.le_of_ble_eq_true rfl) (Nat.le_of_ble_eq_true rfl)) sh_90 fl_3_9 rfl dX3_consider_124 ?_
      refine v_iconst (pc := 127) hX dX3_consider_127 ic_2 ?_
      refine v_iload (pc := 128) 1 hX dX3_consider_128 rfl ?_
      obtain ⟨M13, eM13, h⟩ := bd_e h
      refine v_iast (pc := 130) hX (hcs 91 (Nat.le_of_ble_eq_true rfl) (Nat.le_of_ble_eq_true rfl)) sh_91 (ib_2 (by decide)) ix_2 dX3_consider_130 eM13 ?_
      obtain rfl := Option.some.inj h
      exact v_vret (pc := 131) hX hR dX3_consider_131
  · have h := if_t h h6
    obtain rfl := Option.some.inj h
    exact v_vret (pc := 74) hX hR dX3_consider_74
set_option maxHeartbeats 4000000 in
set_option maxRecDepth 100000 in
theorem c_X3_findBest {ad : Nat → Nat} {cs : List Nat} (hcs : ∀ k, 1 ≤ k → k < 92 → k ∈ cs) (M : Mm) (w2 : Int32) (q : Mm) (h : fX3_findBest M w2 = some q) : CT ad cs yX3_findBest cX3_findBest 8 none 3 83 [.ref (ad 90), .ref (ad 1), .int w2] M none q := by
  refine CT.of RX3 (by decide +kernel) rfl (Nat.le_of_ble_eq_true rfl) (fun X hX hR => ?_)
  unfold fX3_findBest at h
  show VV X 8 ad cs M 0 [(0, .ref (ad 90)), (1, .ref (ad 1)), (2, .int w2)] []
  refine v_aload_n (pc := 0) 1 hX dX3_findBest_0 rfl ?_
  refine v_getI (pc := 1) hX (hcs 1 (Nat.le_of_ble_eq_true rfl) (Nat.le_of_ble_eq_true rfl)) sh_1 fl_3_15 rfl dX3_findBest_1 ?_
  refine v_iconst (pc := 4) hX dX3_findBest_4 ic_1 ?_
  obtain ⟨k1, ek1, h⟩ := bd_e h
  have K2 : ∀ (x3 : Int32), k1 x3 = some q → VV X 8 ad cs M 13 [(0, .ref (ad 90)), (1, .ref (ad 1)), (2, .int w2)] [.int x3] := by
    intro x3 h
    subst ek1
    refine v_istore_n (pc := 13) [(3, .int x3), (0, .ref (ad 90)), (1, .ref (ad 1)), (2, .int w2)] hX dX3_findBest_13 (by decide) rfl ?_
    refine v_aload_n (pc := 14) 2 hX dX3_findBest_14 rfl ?_
    refine v_getI (pc := 15) hX (hcs 1 (Nat.le_of_ble_eq_true rfl) (Nat.le_of_ble_eq_true rfl)) sh_1 fl_3_15 rfl dX3_findBest_15 ?_
    refine v_iconst (pc := 18) hX dX3_findBest_18 ic_2 ?_
    obtain ⟨k4, ek4, h⟩ := bd_e h
    have K5 : ∀ (x6 : Int32), k4 x6 = some q → VV X 8 ad cs M 27 [(0, .ref (ad 90)), (1, .ref (ad 1)), (2, .int w2), (3, .int x3)] [.int x6] := by
      intro x6 h
      subst ek4
      refine v_istore (pc := 27) [(4, .int x6), (0, .ref (ad 90)), (1, .ref (ad 1)), (2, .int w2), (3, .int x3)] hX dX3_findBest_27 (by decide) rfl ?_
      refine v_aload_n (pc := 29) 1 hX dX3_findBest_29 rfl ?_
      refine v_ldc2 (pc := 30) hX kc_3_21 dX3_findBest_30 ?_
      obtain ⟨M7, eM7, h⟩ := bd_e h
      refine v_putL (pc := 33) hX (hcs 90 (Nat.le_of_ble_eq_true rfl) (Nat.le_of_ble_eq_true rfl)) sh_90 pl_3_23 rfl dX3_findBest_33 eM7 ?_
      refine v_iload_n (pc := 36) 3 hX dX3_findBest_36 rfl ?_
      refine v_ineg (pc := 37) hX dX3_findBest_37 ?_
      obtain ⟨x8, ex8, h⟩ := bd_e h
      refine v_top ex8 ?_
      refine v_istore (pc := 38) [(5, .int x8), (4, .int x6), (0, .ref (ad 90)), (1, .ref (ad 1)), (2, .int w2), (3, .int x3)] hX dX3_findBest_38 (by decide) rfl ?_
      have L31 := v_itr (fX3_findBest_L40 w2 x3 x6) (fun z => VV X 8 ad cs z.2 40 [(0, .ref (ad 90)), (1, .ref (ad 1)), (2, .int w2), (3, .int x3), (4, .int x6), (5, .int z.1)] []) (fun z => VV X 8 ad cs z 97 [] []) (by
        rintro ⟨x9, M10⟩ q h hK
        unfold fX3_findBest_L40 at h
        have h := u2_b h
        show VV X 8 ad cs M10 40 [(0, .ref (ad 90)), (1, .ref (ad 1)), (2, .int w2), (3, .int x3), (4, .int x6), (5, .int x9)] []
        refine v_iload (pc := 40) 5 hX dX3_findBest_40 rfl ?_
        refine v_iload_n (pc := 42) 2 hX dX3_findBest_42 rfl ?_
        refine v_icmp_gt (pc := 43) (tgt := 97) hX dX3_findBest_43 (by decide) (fun h11 => ?_) (fun h11 => ?_)
        · have h := if_t h h11
          obtain rfl := Option.some.inj h
          exact v_sub [] rfl hK
        · have h := if_f h h11
          refine v_iload_n (pc := 46) 3 hX dX3_findBest_46 rfl ?_
          refine v_ineg (pc := 47) hX dX3_findBest_47 ?_
          obtain ⟨x12, ex12, h⟩ := bd_e h
          refine v_top ex12 ?_
          refine v_istore (pc := 48) [(6, .int x12), (0, .ref (ad 90)), (1, .ref (ad 1)), (2, .int w2), (3, .int x3), (4, .int x6), (5, .int x9)] hX dX3_findBest_48 (by decide) rfl ?_
          have L27 := v_itr (fX3_findBest_L50 x3 x6 x9) (fun z => VV X 8 ad cs z.2 50 [(0, .ref (ad 90)), (1, .ref (ad 1)), (2, .int w2), (3, .int x3), (4, .int x6), (5, .int x9), (6, .int z.1)] []) (fun z => VV X 8 ad cs z 91 [(0, .ref (ad 90)), (1, .ref (ad 1)), (2, .int w2), (3, .int x3), (4, .int x6), (5, .int x9)] []) (by
            rintro ⟨x13, M14⟩ q h hK
            unfold fX3_findBest_L50 at h
            have h := u2_b h
            show VV X 8 ad cs M14 50 [(0, .ref (ad 90)), (1, .ref (ad 1)), (2, .int w2), (3, .int x3), (4, .int x6), (5, .int x9), (6, .int x13)] []
            refine v_iload (pc := 50) 6 hX dX3_findBest_50 rfl ?_
            refine v_iload_n (pc := 52) 3 hX dX3_findBest_52 rfl ?_
            refine v_icmp_gt (pc := 53) (tgt := 91) hX dX3_findBest_53 (by decide) (fun h15 => ?_) (fun h15 => ?_)
            · have h := if_t h h15
              obtain rfl := Option.some.inj h
              exact v_sub [0, 1, 2, 3, 4, 5] rfl hK
            · have h := if_f h h15
              refine v_iload (pc := 56) 4 hX dX3_findBest_56 rfl ?_
              refine v_ineg (pc := 58) hX dX3_findBest_58 ?_
              obtain ⟨x16, ex16, h⟩ := bd_e h
              refine v_top ex16 ?_
              refine v_istore (pc := 59) [(7, .int x16), (0, .ref (ad 90)), (1, .ref (ad 1)), (2, .int w2), (3, .int x3), (4, .int x6), (5, .int x9), (6, .int x13)] hX dX3_findBest_59 (by decide) rfl ?_
              have L23 := v_itr (fX3_findBest_L61 x6 x9 x13) (fun z => VV X 8 ad cs z.2 61 [(0, .ref (ad 90)), (1, .ref (ad 1)), (2, .int w2), (3, .int x3), (4, .int x6), (5, .int x9), (6, .int x13), (7, .int z.1)] []) (fun z => VV X 8 ad cs z 85 [(0, .ref (ad 90)), (1, .ref (ad 1)), (2, .int w2), (3, .int x3), (4, .int x6), (5, .int x9), (6, .int x13)] []) (by
                rintro ⟨x17, M18⟩ q h hK
                unfold fX3_findBest_L61 at h
                have h := u2_b h
                show VV X 8 ad cs M18 61 [(0, .ref (ad 90)), (1, .ref (ad 1)), (2, .int w2), (3, .int x3), (4, .int x6), (5, .int x9), (6, .int x13), (7, .int x17)] []
                refine v_iload (pc := 61) 7 hX dX3_findBest_61 rfl ?_
                refine v_iload (pc := 63) 4 hX dX3_findBest_63 rfl ?_
                refine v_icmp_gt (pc := 65) (tgt := 85) hX dX3_findBest_65 (by decide) (fun h19 => ?_) (fun h19 => ?_)
                · have h := if_t h h19
                  obtain rfl := Option.some.inj h
                  exact v_sub [0, 1, 2, 3, 4, 5, 6] rfl hK
                · have h := if_f h h19
                  refine v_aload_n (pc := 68) 0 hX dX3_findBest_68 rfl ?_
                  refine v_aload_n (pc := 69) 1 hX dX3_findBest_69 rfl ?_
                  refine v_iload (pc := 70) 5 hX dX3_findBest_70 rfl ?_
                  refine v_iload (pc := 72) 6 hX dX3_findBest_72 rfl ?_
                  refine v_iload (pc := 74) 7 hX dX3_findBest_74 rfl ?_
                  obtain ⟨M21, h20, h⟩ := b1_e h
                  refine v_callV (pc := 76) [.ref (ad 1), .int x9, .int x13, .int x17] none M21 hX cv_3_27 (c_X3_consider (sub_cs hcs (Nat.le_of_ble_eq_true rfl) (Nat.le_of_ble_eq_true rfl)) M18 x9 x13 x17 M21 h20) (hcs 90 (Nat.le_of_ble_eq_true rfl) (Nat.le_of_ble_eq_true rfl)) sh_90 rfl rfl rfl ⟨Nat.le_of_ble_eq_true rfl, Nat.le_of_ble_eq_true rfl⟩ (Nat.le_of_ble_eq_true rfl) dX3_findBest_76 ?_
                  show VV X 8 ad cs M21 79 [(0, .ref (ad 90)), (1, .ref (ad 1)), (2, .int w2), (3, .int x3), (4, .int x6), (5, .int x9), (6, .int x13), (7, .int x17)] []
                  obtain ⟨x22, ex22, h⟩ := bd_e h
                  refine v_iinc (v := x22) (pc := 79) 7 [(7, .int x22), (0, .ref (ad 90)), (1, .ref (ad 1)), (2, .int w2), (3, .int x3), (4, .int x6), (5, .int x9), (6, .int x13)] hX dX3_findBest_79 rfl (ex22.trans (by rw [ic_1])) (by decide) rfl ?_
                  refine v_goto (pc := 82) (tgt := 61) hX dX3_findBest_82 (by decide) ?_
                  obtain rfl := Option.some.inj h
                  exact v_sub [1, 2, 3, 4, 5, 6, 7, 0] rfl hK
              )
              obtain ⟨M24, h26, h⟩ := b1_e h
              refine v_sub [1, 2, 3, 4, 5, 6, 7, 0] rfl ?_
              refine L23 1000 _ _ h26 ?_
              show VV X 8 ad cs M24 85 [(0, .ref (ad 90)), (1, .ref (ad 1)), (2, .int w2), (3, .int x3), (4, .int x6), (5, .int x9), (6, .int x13)] []
              obtain ⟨x25, ex25, h⟩ := bd_e h
              refine v_iinc (v := x25) (pc := 85) 6 [(6, .int x25), (0, .ref (ad 90)), (1, .ref (ad 1)), (2, .int w2), (3, .int x3), (4, .int x6), (5, .int x9)] hX dX3_findBest_85 rfl (ex25.trans (by rw [ic_1])) (by decide) rfl ?_
              refine v_goto (pc := 88) (tgt := 50) hX dX3_findBest_88 (by decide) ?_
              obtain rfl := Option.some.inj h
              exact v_sub [1, 2, 3, 4, 5, 6, 0] rfl hK
          )
          obtain ⟨M28, h30, h⟩ := b1_e h
          refine v_sub [1, 2, 3, 4, 5, 6, 0] rfl ?_
          refine L27 1000 _ _ h30 ?_
          show VV X 8 ad cs M28 91 [(0, .ref (ad 90)), (1, .ref (ad 1)), (2, .int w2), (3, .int x3), (4, .int x6), (5, .int x9)] []
          obtain ⟨x29, ex29, h⟩ := bd_e h
          refine v_iinc (v := x29) (pc := 91) 5 [(5, .int x29), (0, .ref (ad 90)), (1, .ref (ad 1)), (2, .int w2), (3, .int x3), (4, .int x6)] hX dX3_findBest_91 rfl (ex29.trans (by rw [ic_1])) (by decide) rfl ?_
          refine v_goto (pc := 94) (tgt := 40) hX dX3_findBest_94 (by decide) ?_
          obtain rfl := Option.some.inj h
          exact v_sub [1, 2, 3, 4, 5, 0] rfl hK
      )
      obtain ⟨M32, h33, h⟩ := b1_e h
      refine v_sub [2, 3, 4, 5, 1, 0] rfl ?_
      refine L31 1000 _ _ h33 ?_
      show VV X 8 ad cs M32 97 [] []
      obtain rfl := Option.some.inj h
      exact v_vret (pc := 97) hX hR dX3_findBest_97
    refine v_icmp_le (pc := 19) (tgt := 26) hX dX3_findBest_19 (by decide) (fun h34 => ?_) (fun h34 => ?_)
    · have h := if_t h h34
      refine v_iconst (pc := 26) hX dX3_findBest_26 ic_0 ?_
      exact v_sub [1, 2, 3, 0] rfl (K5 0 h)
    · have h := if_f h h34
      refine v_iload_n (pc := 22) 3 hX dX3_findBest_22 rfl ?_
      refine v_goto (pc := 23) (tgt := 27) hX dX3_findBest_23 (by decide) ?_
      exact v_sub [1, 2, 3, 0] rfl (K5 w2 h)
  refine v_icmp_le (pc := 5) (tgt := 12) hX dX3_findBest_5 (by decide) (fun h35 => ?_) (fun h35 => ?_)
  · have h := if_t h h35
    refine v_iconst (pc := 12) hX dX3_findBest_12 ic_0 ?_
    exact v_sub [0, 1, 2] rfl (K2 0 h)
  · have h := if_f h h35
    refine v_iload_n (pc := 8) 2 hX dX3_findBest_8 rfl ?_
    refine v_goto (pc := 9) (tgt := 13) hX dX3_findBest_9 (by decide) ?_
    exact v_sub [0, 1, 2] rfl (K2 w2 h)
set_option maxHeartbeats 4000000 in
set_option maxRecDepth 100000 in
theorem c_X10_around {ad : Nat → Nat} {cs : List Nat} (hcs : ∀ k, 0 ≤ k → k < 92 → k ∈ cs) (M : Mm) (w1 : Int32) (w2 : Int32) (q : Int32 × Mm) (h : fX10_around M w1 w2 = some q) : CT ad cs yX10_around cX10_around 3 (some .int) 4 110 [.ref (ad 0), .int w1, .int w2] M (some (.int q.1)) q.2 := by
  refine CT.of RX10 (by decide +kernel) rfl (Nat.le_of_ble_eq_true rfl) (fun X hX hR => ?_)
  unfold fX10_around at h
  show VV X 3 ad cs M 0 [(0, .ref (ad 0)), (1, .int w1), (2, .int w2)] []
  refine v_iload_n (pc := 0) 1 hX dX10_around_0 rfl ?_
  refine v_iconst (pc := 1) hX dX10_around_1 ic_0 ?_
  refine v_iconst (pc := 2) hX dX10_around_2 ic_3 ?_
  obtain ⟨x2, h1, h⟩ := b1_e h
  refine v_callS (pc := 3) [.int w1, .int 0, .int 3] (some (.int x2)) M hX cv_10_62 (c_X10_within M w1 0 3 x2 h1) rfl rfl ⟨Nat.le_of_ble_eq_true rfl, Nat.le_of_ble_eq_true rfl⟩ (Nat.le_of_ble_eq_true rfl) dX10_around_3 ?_
  show VV X 3 ad cs M 6 [(0, .ref (ad 0)), (1, .int w1), (2, .int w2)] [.int x2]
  refine v_if_eq (pc := 6) (tgt := 18) hX dX10_around_6 (by decide) (fun h3 => ?_) (fun h3 => ?_)
  · have h := if_t h h3
    refine v_ldc (pc := 18) hX kc_10_66 dX10_around_18 ?_
    obtain rfl := Option.some.inj h
    exact v_iret (pc := 20) hX hR dX10_around_20
  · have h := if_f h h3
    refine v_iload_n (pc := 9) 2 hX dX10_around_9 rfl ?_
    refine v_iconst (pc := 10) hX dX10_around_10 ic_0 ?_
    refine v_iconst (pc := 11) hX dX10_around_11 ic_2 ?_
    obtain ⟨x5, h4, h⟩ := b1_e h
    refine v_callS (pc := 12) [.int w2, .int 0, .int 2] (some (.int x5)) M hX cv_10_62 (c_X10_within M w2 0 2 x5 h4) rfl rfl ⟨Nat.le_of_ble_eq_true rfl, Nat.le_of_ble_eq_true rfl⟩ (Nat.le_of_ble_eq_true rfl) dX10_around_12 ?_
    show VV X 3 ad cs M 15 [(0, .ref (ad 0)), (1, .int w1), (2, .int w2)] [.int x5]
    refine v_if_ne (pc := 15) (tgt := 21) hX dX10_around_15 (by decide) (fun h6 => ?_) (fun h6 => ?_)
    · have h := if_f h h6
      refine v_aload_n (pc := 21) 0 hX dX10_around_21 rfl ?_
      refine v_getR (pc := 22) (t := 1) hX (hcs 0 (Nat.le_of_ble_eq_true rfl) (Nat.le_of_ble_eq_true rfl)) sh_0 fl_10_10 rfl dX10_around_22 ?_
      obtain ⟨x8, h7, h⟩ := b1_e h
      refine v_callV (pc := 25) [] (some (.int x8)) M hX cv_10_117 (c_X6_placeIsAllowed (sub_cs hcs (Nat.le_of_ble_eq_true rfl) (Nat.le_of_ble_eq_true rfl)) M x8 h7) (hcs 1 (Nat.le_of_ble_eq_true rfl) (Nat.le_of_ble_eq_true rfl)) sh_1 rfl rfl rfl ⟨Nat.le_of_ble_eq_true rfl, Nat.le_of_ble_eq_true rfl⟩ (Nat.le_of_ble_eq_true rfl) dX10_around_25 ?_
      show VV X 3 ad cs M 28 [(0, .ref (ad 0)), (1, .int w1), (2, .int w2)] [.int x8]
      refine v_if_ne (pc := 28) (tgt := 34) hX dX10_around_28 (by decide) (fun h9 => ?_) (fun h9 => ?_)
      · have h := if_f h h9
        refine v_aload_n (pc := 34) 0 hX dX10_around_34 rfl ?_
        refine v_getR (pc := 35) (t := 90) hX (hcs 0 (Nat.le_of_ble_eq_true rfl) (Nat.le_of_ble_eq_true rfl)) sh_0 fl_10_51 rfl dX10_around_35 ?_
        refine v_aload_n (pc := 38) 0 hX dX10_around_38 rfl ?_
        refine v_getR (pc := 39) (t := 1) hX (hcs 0 (Nat.le_of_ble_eq_true rfl) (Nat.le_of_ble_eq_true rfl)) sh_0 fl_10_10 rfl dX10_around_39 ?_
        refine v_iload_n (pc := 42) 1 hX dX10_around_42 rfl ?_
        obtain ⟨M11, h10, h⟩ := b1_e h
        refine v_callV (pc := 43) [.ref (ad 1), .int w1] none M11 hX cv_10_237 (c_X3_findBest (sub_cs hcs (Nat.le_of_ble_eq_true rfl) (Nat.le_of_ble_eq_true rfl)) M w1 M11 h10) (hcs 90 (Nat.le_of_ble_eq_true rfl) (Nat.le_of_ble_eq_true rfl)) sh_90 rfl rfl rfl ⟨Nat.le_of_ble_eq_true rfl, Nat.le_of_ble_eq_true rfl⟩ (Nat.le_of_ble_eq_true rfl) dX10_around_43 ?_
        show VV X 3 ad cs M11 46 [(0, .ref (ad 0)), (1, .int w1), (2, .int w2)] []
        refine v_aload_n (pc := 46) 0 hX dX10_around_46 rfl ?_
        refine v_getR (pc := 47) (t := 90) hX (hcs 0 (Nat.le_of_ble_eq_true rfl) (Nat.le_of_ble_eq_true rfl)) sh_0 fl_10_51 rfl dX10_around_47 ?_
        refine v_getR (pc := 50) (t := 91) hX (hcs 90 (Nat.le_of_ble_eq_true rfl) (Nat.le_of_ble_eq_true rfl)) sh_90 fl_10_240 rfl dX10_around_50 ?_
        refine v_iload_n (pc := 53) 2 hX dX10_around_53 rfl ?_
        obtain ⟨g12, h⟩ := gd_e h
        refine v_iald (pc := 54) hX (hcs 91 (Nat.le_of_ble_eq_true rfl) (Nat.le_of_ble_eq_true rfl)) sh_91 g12 rfl dX10_around_54 ?_
        obtain rfl := Option.some.inj h
        exact v_iret (pc := 55) hX hR dX10_around_55
      · have h := if_t h h9
        refine v_ldc (pc := 31) hX kc_10_93 dX10_around_31 ?_
        obtain rfl := Option.some.inj h
        exact v_iret (pc := 33) hX hR dX10_around_33
    · have h := if_t h h6
      refine v_ldc (pc := 18) hX kc_10_66 dX10_around_18 ?_
      obtain rfl := Option.some.inj h
      exact v_iret (pc := 20) hX hR dX10_around_20
set_option maxHeartbeats 4000000 in
set_option maxRecDepth 100000 in
theorem c_L_isAllowed {ad : Nat → Nat} {cs : List Nat} (hcs : ∀ k, 0 ≤ k → k < 81 → k ∈ cs) (M : Mm) (w1 : Int32) (w2 : Int32) (w3 : Int32) (q : Int32) (h : fL_isAllowed M w1 w2 w3 = some q) : CT ad cs yL_isAllowed cL_isAllowed 6 (some .boolean) 3 64 [.ref (ad 0), .int w1, .int w2, .int w3] M (some (.int q)) M := by
  refine CT.of RL (by decide +kernel) rfl (Nat.le_of_ble_eq_true rfl) (fun X hX hR => ?_)
  unfold fL_isAllowed at h
  show VV X 6 ad cs M 0 [(0, .ref (ad 0)), (1, .int w1), (2, .int w2), (3, .int w3)] []
  refine v_aload_n (pc := 0) 0 hX dL_isAllowed_0 rfl ?_
  refine v_iconst (pc := 1) hX dL_isAllowed_1 ic_0 ?_
  obtain ⟨x2, h1, h⟩ := b1_e h
  refine v_callV (pc := 2) [.int 0] (some (.int x2)) M hX cv_L_16 (c_X10_count (sub_cs hcs (Nat.le_of_ble_eq_true rfl) (Nat.le_of_ble_eq_true rfl)) M 0 x2 h1) (hcs 0 (Nat.le_of_ble_eq_true rfl) (Nat.le_of_ble_eq_true rfl)) sh_0 rfl rfl rfl ⟨Nat.le_of_ble_eq_true rfl, Nat.le_of_ble_eq_true rfl⟩ (Nat.le_of_ble_eq_true rfl) dL_isAllowed_2 ?_
  show VV X 6 ad cs M 5 [(0, .ref (ad 0)), (1, .int w1), (2, .int w2), (3, .int w3)] [.int x2]
  refine v_istore (pc := 5) [(4, .int x2), (0, .ref (ad 0)), (1, .int w1), (2, .int w2), (3, .int w3)] hX dL_isAllowed_5 (by decide) rfl ?_
  refine v_iload_n (pc := 7) 2 hX dL_isAllowed_7 rfl ?_
  refine v_aload_n (pc := 8) 1 hX dL_isAllowed_8 rfl ?_
  refine v_bipush (pc := 9) hX dL_isAllowed_9 bp_10 ?_
  obtain ⟨x4, h3, h⟩ := b1_e h
  refine v_callV (pc := 11) [.int 10] (some (.int x4)) M hX cv_L_16 (c_X10_count (sub_cs hcs (Nat.le_of_ble_eq_true rfl) (Nat.le_of_ble_eq_true rfl)) M 10 x4 h3) (hcs 0 (Nat.le_of_ble_eq_true rfl) (Nat.le_of_ble_eq_true rfl)) sh_0 rfl rfl rfl ⟨Nat.le_of_ble_eq_true rfl, Nat.le_of_ble_eq_true rfl⟩ (Nat.le_of_ble_eq_true rfl) dL_isAllowed_11 ?_
  show VV X 6 ad cs M 14 [(4, .int x2), (0, .ref (ad 0)), (1, .int w1), (2, .int w2), (3, .int w3)] [.int x4, .int w1]
  obtain ⟨k5, ek5, h⟩ := bd_e h
  have K6 : ∀ (x7 : Int32), k5 x7 = some q → VV X 6 ad cs M 32 [(0, .ref (ad 0)), (2, .int w2), (3, .int w3), (4, .int x2)] [.int x7] := by
    intro x7 h
    subst ek5
    refine v_istore (pc := 32) [(5, .int x7), (0, .ref (ad 0)), (2, .int w2), (3, .int w3), (4, .int x2)] hX dL_isAllowed_32 (by decide) rfl ?_
    refine v_iload (pc := 34) 0 hX dL_isAllowed_34 rfl ?_
    obtain ⟨k8, ek8, h⟩ := bd_e h
    have K9 : ∀ (x10 : Int32), k8 x10 = some q → VV X 6 ad cs M 77 [(0, .ref (ad 0)), (3, .int w3), (4, .int x2)] [.int x10] := by
      intro x10 h
      subst ek8
      refine v_istore (pc := 77) [(5, .int x10), (0, .ref (ad 0)), (3, .int w3), (4, .int x2)] hX dL_isAllowed_77 (by decide) rfl ?_
      refine v_iload (pc := 79) 0 hX dL_isAllowed_79 rfl ?_
      refine v_if_eq (pc := 81) (tgt := 121) hX dL_isAllowed_81 (by decide) (fun h11 => ?_) (fun h11 => ?_)
      · have h := if_t h h11
        refine v_iconst (pc := 121) hX dL_isAllowed_121 ic_0 ?_
        obtain rfl := Option.some.inj h
        exact v_zret (pc := 122) hX hR (Or.inl rfl) dL_isAllowed_122
      · have h := if_f h h11
        refine v_iload (pc := 84) 3 hX dL_isAllowed_84 rfl ?_
        refine v_iconst (pc := 86) hX dL_isAllowed_86 ic_3 ?_
        refine v_icmp_ge (pc := 87) (tgt := 97) hX dL_isAllowed_87 (by decide) (fun h12 => ?_) (fun h12 => ?_)
        · have h := if_t h h12
          refine v_iload_n (pc := 97) 2 hX dL_isAllowed_97 rfl ?_
          refine v_aload_n (pc := 98) 1 hX dL_isAllowed_98 rfl ?_
          refine v_bipush (pc := 99) hX dL_isAllowed_99 bp_12 ?_
          obtain ⟨x14, h13, h⟩ := b1_e h
          refine v_callV (pc := 101) [.int 12] (some (.int x14)) M hX cv_L_16 (c_X10_count (sub_cs hcs (Nat.le_of_ble_eq_true rfl) (Nat.le_of_ble_eq_true rfl)) M 12 x14 h13) (hcs 0 (Nat.le_of_ble_eq_true rfl) (Nat.le_of_ble_eq_true rfl)) sh_0 rfl rfl rfl ⟨Nat.le_of_ble_eq_true rfl, Nat.le_of_ble_eq_true rfl⟩ (Nat.le_of_ble_eq_true rfl) dL_isAllowed_101 ?_
          show VV X 6 ad cs M 104 [(5, .int x10), (0, .ref (ad 0)), (3, .int w3), (4, .int x2)] [.int x14, .int w3]
          refine v_icmp_lt (pc := 104) (tgt := 121) hX dL_isAllowed_104 (by decide) (fun h15 => ?_) (fun h15 => ?_)
          · have h := if_t h h15
            refine v_iconst (pc := 121) hX dL_isAllowed_121 ic_0 ?_
            obtain rfl := Option.some.inj h
            exact v_zret (pc := 122) hX hR (Or.inl rfl) dL_isAllowed_122
          · have h := if_f h h15
            refine v_iload_n (pc := 107) 2 hX dL_isAllowed_107 rfl ?_
            refine v_aload_n (pc := 108) 1 hX dL_isAllowed_108 rfl ?_
            refine v_bipush (pc := 109) hX dL_isAllowed_109 bp_22 ?_
            obtain ⟨x17, h16, h⟩ := b1_e h
            refine v_callV (pc := 111) [.int 22] (some (.int x17)) M hX cv_L_16 (c_X10_count (sub_cs hcs (Nat.le_of_ble_eq_true rfl) (Nat.le_of_ble_eq_true rfl)) M 22 x17 h16) (hcs 0 (Nat.le_of_ble_eq_true rfl) (Nat.le_of_ble_eq_true rfl)) sh_0 rfl rfl rfl ⟨Nat.le_of_ble_eq_true rfl, Nat.le_of_ble_eq_true rfl⟩ (Nat.le_of_ble_eq_true rfl) dL_isAllowed_111 ?_
            show VV X 6 ad cs M 114 [(5, .int x10), (0, .ref (ad 0)), (3, .int w3), (4, .int x2)] [.int x17, .int w3]
            refine v_icmp_gt (pc := 114) (tgt := 121) hX dL_isAllowed_114 (by decide) (fun h18 => ?_) (fun h18 => ?_)
            · have h := if_t h h18
              refine v_iconst (pc := 121) hX dL_isAllowed_121 ic_0 ?_
              obtain rfl := Option.some.inj h
              exact v_zret (pc := 122) hX hR (Or.inl rfl) dL_isAllowed_122
            · have h := if_f h h18
              refine v_iconst (pc := 117) hX dL_isAllowed_117 ic_1 ?_
              refine v_goto (pc := 118) (tgt := 122) hX dL_isAllowed_118 (by decide) ?_
              obtain rfl := Option.some.inj h
              exact v_zret (pc := 122) hX hR (Or.inr rfl) dL_isAllowed_122
        · have h := if_f h h12
          refine v_iload_n (pc := 90) 2 hX dL_isAllowed_90 rfl ?_
          refine v_if_ne (pc := 91) (tgt := 121) hX dL_isAllowed_91 (by decide) (fun h19 => ?_) (fun h19 => ?_)
          · have h := if_f h h19
            refine v_iconst (pc := 121) hX dL_isAllowed_121 ic_0 ?_
            obtain rfl := Option.some.inj h
            exact v_zret (pc := 122) hX hR (Or.inl rfl) dL_isAllowed_122
          · have h := if_t h h19
            refine v_goto (pc := 94) (tgt := 117) hX dL_isAllowed_94 (by decide) ?_
            refine v_iconst (pc := 117) hX dL_isAllowed_117 ic_1 ?_
            refine v_goto (pc := 118) (tgt := 122) hX dL_isAllowed_118 (by decide) ?_
            obtain rfl := Option.some.inj h
            exact v_zret (pc := 122) hX hR (Or.inr rfl) dL_isAllowed_122
    obtain ⟨k20, ek20, h⟩ := bd_e h
    have K21 : ∀ (_ : Unit), k20 () = some q → VV X 6 ad cs M 76 [(0, .ref (ad 0)), (3, .int w3), (4, .int x2)] [] := by
      intro _ h
      subst ek20
      refine v_iconst (pc := 76) hX dL_isAllowed_76 ic_0 ?_
      exact v_sub [0, 1, 2] rfl (K9 0 h)
    refine v_if_eq (pc := 36) (tgt := 76) hX dL_isAllowed_36 (by decide) (fun h22 => ?_) (fun h22 => ?_)
    · have h := if_t h h22
      exact v_sub [1, 3, 4] rfl (K21 () h)
    · have h := if_f h h22
      refine v_iload (pc := 39) 4 hX dL_isAllowed_39 rfl ?_
      refine v_iconst (pc := 41) hX dL_isAllowed_41 ic_2 ?_
      obtain ⟨k23, ek23, h⟩ := bd_e h
      have K24 : ∀ (_ : Unit), k23 () = some q → VV X 6 ad cs M 72 [(0, .ref (ad 0)), (3, .int w3), (4, .int x2)] [] := by
        intro _ h
        subst ek23
        refine v_iconst (pc := 72) hX dL_isAllowed_72 ic_1 ?_
        refine v_goto (pc := 73) (tgt := 77) hX dL_isAllowed_73 (by decide) ?_
        exact v_sub [0, 1, 2] rfl (K9 1 h)
      refine v_icmp_ge (pc := 42) (tgt := 52) hX dL_isAllowed_42 (by decide) (fun h25 => ?_) (fun h25 => ?_)
      · have h := if_t h h25
        refine v_iload_n (pc := 52) 2 hX dL_isAllowed_52 rfl ?_
        refine v_aload_n (pc := 53) 1 hX dL_isAllowed_53 rfl ?_
        refine v_bipush (pc := 54) hX dL_isAllowed_54 bp_11 ?_
        obtain ⟨x27, h26, h⟩ := b1_e h
        refine v_callV (pc := 56) [.int 11] (some (.int x27)) M hX cv_L_16 (c_X10_count (sub_cs hcs (Nat.le_of_ble_eq_true rfl) (Nat.le_of_ble_eq_true rfl)) M 11 x27 h26) (hcs 0 (Nat.le_of_ble_eq_true rfl) (Nat.le_of_ble_eq_true rfl)) sh_0 rfl rfl rfl ⟨Nat.le_of_ble_eq_true rfl, Nat.le_of_ble_eq_true rfl⟩ (Nat.le_of_ble_eq_true rfl) dL_isAllowed_56 ?_
        show VV X 6 ad cs M 59 [(5, .int x7), (0, .ref (ad 0)), (2, .int w2), (3, .int w3), (4, .int x2)] [.int x27, .int w2]
        refine v_icmp_lt (pc := 59) (tgt := 76) hX dL_isAllowed_59 (by decide) (fun h28 => ?_) (fun h28 => ?_)
        · have h := if_t h h28
          exact v_sub [1, 3, 4] rfl (K21 () h)
        · have h := if_f h h28
          refine v_iload_n (pc := 62) 2 hX dL_isAllowed_62 rfl ?_
          refine v_aload_n (pc := 63) 1 hX dL_isAllowed_63 rfl ?_
          refine v_bipush (pc := 64) hX dL_isAllowed_64 bp_21 ?_
          obtain ⟨x30, h29, h⟩ := b1_e h
          refine v_callV (pc := 66) [.int 21] (some (.int x30)) M hX cv_L_16 (c_X10_count (sub_cs hcs (Nat.le_of_ble_eq_true rfl) (Nat.le_of_ble_eq_true rfl)) M 21 x30 h29) (hcs 0 (Nat.le_of_ble_eq_true rfl) (Nat.le_of_ble_eq_true rfl)) sh_0 rfl rfl rfl ⟨Nat.le_of_ble_eq_true rfl, Nat.le_of_ble_eq_true rfl⟩ (Nat.le_of_ble_eq_true rfl) dL_isAllowed_66 ?_
          show VV X 6 ad cs M 69 [(5, .int x7), (0, .ref (ad 0)), (2, .int w2), (3, .int w3), (4, .int x2)] [.int x30, .int w2]
          refine v_icmp_gt (pc := 69) (tgt := 76) hX dL_isAllowed_69 (by decide) (fun h31 => ?_) (fun h31 => ?_)
          · have h := if_t h h31
            exact v_sub [1, 3, 4] rfl (K21 () h)
          · have h := if_f h h31
            exact v_sub [1, 3, 4] rfl (K24 () h)
      · have h := if_f h h25
        refine v_iload_n (pc := 45) 2 hX dL_isAllowed_45 rfl ?_
        refine v_if_ne (pc := 46) (tgt := 76) hX dL_isAllowed_46 (by decide) (fun h32 => ?_) (fun h32 => ?_)
        · have h := if_f h h32
          exact v_sub [1, 3, 4] rfl (K21 () h)
        · have h := if_t h h32
          refine v_goto (pc := 49) (tgt := 72) hX dL_isAllowed_49 (by decide) ?_
          exact v_sub [1, 3, 4] rfl (K24 () h)
  obtain ⟨k33, ek33, h⟩ := bd_e h
  have K34 : ∀ (_ : Unit), k33 () = some q → VV X 6 ad cs M 31 [(0, .ref (ad 0)), (2, .int w2), (3, .int w3), (4, .int x2)] [] := by
    intro _ h
    subst ek33
    refine v_iconst (pc := 31) hX dL_isAllowed_31 ic_0 ?_
    exact v_sub [0, 1, 2, 3] rfl (K6 0 h)
  refine v_icmp_lt (pc := 14) (tgt := 31) hX dL_isAllowed_14 (by decide) (fun h35 => ?_) (fun h35 => ?_)
  · have h := if_t h h35
    exact v_sub [1, 3, 4, 0] rfl (K34 () h)
  · have h := if_f h h35
    refine v_iload_n (pc := 17) 2 hX dL_isAllowed_17 rfl ?_
    refine v_aload_n (pc := 18) 1 hX dL_isAllowed_18 rfl ?_
    refine v_bipush (pc := 19) hX dL_isAllowed_19 bp_20 ?_
    obtain ⟨x37, h36, h⟩ := b1_e h
    refine v_callV (pc := 21) [.int 20] (some (.int x37)) M hX cv_L_16 (c_X10_count (sub_cs hcs (Nat.le_of_ble_eq_true rfl) (Nat.le_of_ble_eq_true rfl)) M 20 x37 h36) (hcs 0 (Nat.le_of_ble_eq_true rfl) (Nat.le_of_ble_eq_true rfl)) sh_0 rfl rfl rfl ⟨Nat.le_of_ble_eq_true rfl, Nat.le_of_ble_eq_true rfl⟩ (Nat.le_of_ble_eq_true rfl) dL_isAllowed_21 ?_
    show VV X 6 ad cs M 24 [(4, .int x2), (0, .ref (ad 0)), (1, .int w1), (2, .int w2), (3, .int w3)] [.int x37, .int w1]
    refine v_icmp_gt (pc := 24) (tgt := 31) hX dL_isAllowed_24 (by decide) (fun h38 => ?_) (fun h38 => ?_)
    · have h := if_t h h38
      exact v_sub [1, 3, 4, 0] rfl (K34 () h)
    · have h := if_f h h38
      refine v_iconst (pc := 27) hX dL_isAllowed_27 ic_1 ?_
      refine v_goto (pc := 28) (tgt := 32) hX dL_isAllowed_28 (by decide) ?_
      exact v_sub [1, 3, 4, 0] rfl (K6 1 h)
