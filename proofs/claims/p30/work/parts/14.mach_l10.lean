set_option maxHeartbeats 4000000 in
set_option maxRecDepth 100000 in
theorem c_L_build {ad : Nat → Nat} {cs : List Nat} (hcs : ∀ k, 0 ≤ k → k < 95 → k ∈ cs) (b L : Nat) (xs : Nat → Int32) (M : Mm) (w2 : Int32) (q : Int32 × Mm) (h : fL_build L xs M w2 = some q) : CTs b L xs ad cs yL_build cL_build 12 (some .boolean) 5 113 [.ref (ad 0), .ref b, .int w2] M (some (.int q.1)) q.2 := by
  refine CTs.of RL (by decide +kernel) rfl (Nat.le_of_ble_eq_true rfl) (fun X hX hR hZ => ?_)
  unfold fL_build at h
  show VV X 12 ad cs M 0 [(0, .ref (ad 0)), (1, .ref b), (2, .int w2)] []
  refine v_aload_n (pc := 0) 0 hX dL_build_0 rfl ?_
  refine v_iload_n (pc := 1) 2 hX dL_build_1 rfl ?_
  obtain ⟨x2, M3, h1, h⟩ := b2_e h
  refine v_callV (pc := 2) [.int w2] (some (.int x2)) M3 hX cv_L_10 (c_X10_variables (sub_cs hcs (Nat.le_of_ble_eq_true rfl) (Nat.le_of_ble_eq_true rfl)) M w2 (x2, M3) h1) (hcs 0 (Nat.le_of_ble_eq_true rfl) (Nat.le_of_ble_eq_true rfl)) sh_0 rfl rfl rfl ⟨Nat.le_of_ble_eq_true rfl, Nat.le_of_ble_eq_true rfl⟩ (Nat.le_of_ble_eq_true rfl) dL_build_2 ?_
  show VV X 12 ad cs M3 5 [(0, .ref (ad 0)), (1, .ref b), (2, .int w2)] [.int x2]
  refine v_iconst (pc := 5) hX dL_build_5 ic_2 ?_
  obtain ⟨k4, ek4, h⟩ := bd_e h
  have K5 : ∀ (M6 : Mm) (x7 : Int32), k4 M6 x7 = some q → VV X 12 ad cs M6 50 [(0, .ref (ad 0)), (1, .ref b), (2, .int w2)] [.int x7] := by
    intro M6 x7 h
    subst ek4
    refine v_istore_n (pc := 50) [(3, .int x7), (0, .ref (ad 0)), (1, .ref b), (2, .int w2)] hX dL_build_50 (by decide) rfl ?_
    refine v_aload_n (pc := 51) 2 hX dL_build_51 rfl ?_
    refine v_iconst (pc := 52) hX dL_build_52 ic_1 ?_
    obtain ⟨x9, h8, h⟩ := b1_e h
    refine v_callSs (pc := 53) [.ref b, .int 1] (some (.int x9)) M6 hX hZ cv_L_23 (c_L_cell b L xs M6 1 x9 h8) rfl rfl ⟨Nat.le_of_ble_eq_true rfl, Nat.le_of_ble_eq_true rfl⟩ (Nat.le_of_ble_eq_true rfl) dL_build_53 ?_
    show VV X 12 ad cs M6 56 [(3, .int x7), (0, .ref (ad 0)), (1, .ref b), (2, .int w2)] [.int x9]
    refine v_bipush (pc := 56) hX dL_build_56 bp_7 ?_
    obtain ⟨x11, h10, h⟩ := b1_e h
    refine v_callS (pc := 58) [.int x9, .int 7] (some (.int x11)) M6 hX cv_L_29 (c_L_low M6 x9 7 x11 h10) rfl rfl ⟨Nat.le_of_ble_eq_true rfl, Nat.le_of_ble_eq_true rfl⟩ (Nat.le_of_ble_eq_true rfl) dL_build_58 ?_
    show VV X 12 ad cs M6 61 [(3, .int x7), (0, .ref (ad 0)), (1, .ref b), (2, .int w2)] [.int x11]
    refine v_istore (pc := 61) [(4, .int x11), (3, .int x7), (0, .ref (ad 0)), (1, .ref b), (2, .int w2)] hX dL_build_61 (by decide) rfl ?_
    refine v_iconst (pc := 63) hX dL_build_63 ic_0 ?_
    refine v_istore (pc := 64) [(5, .int 0), (4, .int x11), (3, .int x7), (0, .ref (ad 0)), (1, .ref b), (2, .int w2)] hX dL_build_64 (by decide) rfl ?_
    have L58 := v_itr (fL_build_L66 x11 L xs w2) (fun z => VV X 12 ad cs z.2.2 66 [(0, .ref (ad 0)), (1, .ref b), (2, .int w2), (3, .int z.1), (4, .int x11), (5, .int z.2.1)] []) (fun z => VV X 12 ad cs z.2 218 [(0, .ref (ad 0)), (1, .ref b), (2, .int w2), (3, .int z.1)] []) (by
      rintro ⟨x12, x13, M14⟩ q h hK
      unfold fL_build_L66 at h
      have h := u3_b h
      show VV X 12 ad cs M14 66 [(0, .ref (ad 0)), (1, .ref b), (2, .int w2), (3, .int x12), (4, .int x11), (5, .int x13)] []
      refine v_iload (pc := 66) 5 hX dL_build_66 rfl ?_
      refine v_iload (pc := 68) 4 hX dL_build_68 rfl ?_
      refine v_icmp_ge (pc := 70) (tgt := 218) hX dL_build_70 (by decide) (fun h15 => ?_) (fun h15 => ?_)
      · have h := if_t h h15
        obtain rfl := Option.some.inj h
        exact v_sub [0, 1, 2, 3] rfl hK
      · have h := if_f h h15
        refine v_iload_n (pc := 73) 3 hX dL_build_73 rfl ?_
        refine v_if_eq (pc := 74) (tgt := 218) hX dL_build_74 (by decide) (fun h16 => ?_) (fun h16 => ?_)
        · have h := if_t h h16
          obtain rfl := Option.some.inj h
          exact v_sub [0, 1, 2, 3] rfl hK
        · have h := if_f h h16
          refine v_aload_n (pc := 77) 1 hX dL_build_77 rfl ?_
          refine v_iconst (pc := 78) hX dL_build_78 ic_2 ?_
          refine v_iload (pc := 79) 5 hX dL_build_79 rfl ?_
          refine v_iadd (pc := 81) hX dL_build_81 ?_
          obtain ⟨x18, h17, h⟩ := b1_e h
          refine v_callSs (pc := 82) [.ref b, .int (2 + x13)] (some (.int x18)) M14 hX hZ cv_L_23 (c_L_cell b L xs M14 (2 + x13) x18 h17) rfl rfl ⟨Nat.le_of_ble_eq_true rfl, Nat.le_of_ble_eq_true rfl⟩ (Nat.le_of_ble_eq_true rfl) dL_build_82 ?_
          show VV X 12 ad cs M14 85 [(0, .ref (ad 0)), (1, .ref b), (2, .int w2), (3, .int x12), (4, .int x11), (5, .int x13)] [.int x18]
          refine v_istore (pc := 85) [(6, .int x18), (0, .ref (ad 0)), (1, .ref b), (2, .int w2), (3, .int x12), (4, .int x11), (5, .int x13)] hX dL_build_85 (by decide) rfl ?_
          refine v_iload (pc := 87) 0 hX dL_build_87 rfl ?_
          refine v_bipush (pc := 89) hX dL_build_89 bp_8 ?_
          refine v_ishr (pc := 91) hX dL_build_91 ?_
          refine v_iconst (pc := 92) hX dL_build_92 ic_3 ?_
          obtain ⟨x20, h19, h⟩ := b1_e h
          refine v_callS (pc := 93) [.int (x18 >>> (8 &&& 31)), .int 3] (some (.int x20)) M14 hX cv_L_29 (c_L_low M14 (x18 >>> (8 &&& 31)) 3 x20 h19) rfl rfl ⟨Nat.le_of_ble_eq_true rfl, Nat.le_of_ble_eq_true rfl⟩ (Nat.le_of_ble_eq_true rfl) dL_build_93 ?_
          show VV X 12 ad cs M14 96 [(6, .int x18), (0, .ref (ad 0)), (1, .ref b), (2, .int w2), (3, .int x12), (4, .int x11), (5, .int x13)] [.int x20]
          refine v_istore (pc := 96) [(7, .int x20), (6, .int x18), (0, .ref (ad 0)), (1, .ref b), (2, .int w2), (3, .int x12), (4, .int x11), (5, .int x13)] hX dL_build_96 (by decide) rfl ?_
          refine v_iload_n (pc := 98) 4 hX dL_build_98 rfl ?_
          refine v_iconst (pc := 99) hX dL_build_99 ic_1 ?_
          obtain ⟨k21, ek21, h⟩ := bd_e h
          have K22 : ∀ (x23 : Int32), k21 x23 = some q → VV X 12 ad cs M14 116 [(0, .ref (ad 0)), (1, .ref b), (2, .int w2), (4, .int x11), (5, .int x13), (6, .int x18), (7, .int x20)] [.int x23] := by
            intro x23 h
            subst ek21
            refine v_istore (pc := 116) [(8, .int x23), (0, .ref (ad 0)), (1, .ref b), (2, .int w2), (4, .int x11), (5, .int x13), (6, .int x18), (7, .int x20)] hX dL_build_116 (by decide) rfl ?_
            refine v_iload_n (pc := 118) 3 hX dL_build_118 rfl ?_
            refine v_iconst (pc := 119) hX dL_build_119 ic_2 ?_
            obtain ⟨k24, ek24, h⟩ := bd_e h
            have K25 : ∀ (x26 : Int32), k24 x26 = some q → VV X 12 ad cs M14 136 [(0, .ref (ad 0)), (1, .ref b), (2, .int w2), (4, .int x11), (5, .int x13), (6, .int x18), (7, .int x20), (8, .int x23)] [.int x26] := by
              intro x26 h
              subst ek24
              refine v_istore (pc := 136) [(9, .int x26), (0, .ref (ad 0)), (1, .ref b), (2, .int w2), (4, .int x11), (5, .int x13), (6, .int x18), (7, .int x20), (8, .int x23)] hX dL_build_136 (by decide) rfl ?_
              refine v_iload (pc := 138) 6 hX dL_build_138 rfl ?_
              refine v_iconst (pc := 140) hX dL_build_140 ic_2 ?_
              obtain ⟨x28, h27, h⟩ := b1_e h
              refine v_callS (pc := 141) [.int x18, .int 2] (some (.int x28)) M14 hX cv_L_29 (c_L_low M14 x18 2 x28 h27) rfl rfl ⟨Nat.le_of_ble_eq_true rfl, Nat.le_of_ble_eq_true rfl⟩ (Nat.le_of_ble_eq_true rfl) dL_build_141 ?_
              show VV X 12 ad cs M14 144 [(9, .int x26), (0, .ref (ad 0)), (1, .ref b), (2, .int w2), (4, .int x11), (5, .int x13), (6, .int x18), (7, .int x20), (8, .int x23)] [.int x28]
              obtain ⟨k29, ek29, h⟩ := bd_e h
              have K30 : ∀ (x31 : Int32), k29 x31 = some q → VV X 12 ad cs M14 172 [(0, .ref (ad 0)), (1, .ref b), (2, .int w2), (4, .int x11), (5, .int x13), (7, .int x20), (8, .int x23), (9, .int x26)] [.int x31] := by
                intro x31 h
                subst ek29
                refine v_istore (pc := 172) [(10, .int x31), (0, .ref (ad 0)), (1, .ref b), (2, .int w2), (4, .int x11), (5, .int x13), (7, .int x20), (8, .int x23), (9, .int x26)] hX dL_build_172 (by decide) rfl ?_
                refine v_iload (pc := 174) 6 hX dL_build_174 rfl ?_
                refine v_iload (pc := 176) 7 hX dL_build_176 rfl ?_
                refine v_iadd (pc := 178) hX dL_build_178 ?_
                refine v_iload (pc := 179) 8 hX dL_build_179 rfl ?_
                refine v_iadd (pc := 181) hX dL_build_181 ?_
                refine v_iconst (pc := 182) hX dL_build_182 ic_4 ?_
                obtain ⟨k32, ek32, h⟩ := bd_e h
                have K33 : ∀ (M34 : Mm) (x35 : Int32), k32 M34 x35 = some q → VV X 12 ad cs M34 211 [(0, .ref (ad 0)), (1, .ref b), (2, .int w2), (4, .int x11), (5, .int x13)] [.int x35] := by
                  intro M34 x35 h
                  subst ek32
                  refine v_istore_n (pc := 211) [(3, .int x35), (0, .ref (ad 0)), (1, .ref b), (2, .int w2), (4, .int x11), (5, .int x13)] hX dL_build_211 (by decide) rfl ?_
                  obtain ⟨x36, ex36, h⟩ := bd_e h
                  refine v_iinc (v := x36) (pc := 212) 5 [(5, .int x36), (3, .int x35), (0, .ref (ad 0)), (1, .ref b), (2, .int w2), (4, .int x11)] hX dL_build_212 rfl (ex36.trans (by rw [ic_1])) (by decide) rfl ?_
                  refine v_goto (pc := 215) (tgt := 66) hX dL_build_215 (by decide) ?_
                  obtain rfl := Option.some.inj h
                  exact v_sub [2, 3, 4, 1, 5, 0] rfl hK
                obtain ⟨k37, ek37, h⟩ := bd_e h
                have K38 : ∀ (M39 : Mm), k37 M39 = some q → VV X 12 ad cs M39 206 [(0, .ref (ad 0)), (1, .ref b), (2, .int w2), (4, .int x11), (5, .int x13)] [] := by
                  intro M39 h
                  subst ek37
                  refine v_iconst (pc := 206) hX dL_build_206 ic_1 ?_
                  refine v_goto (pc := 207) (tgt := 211) hX dL_build_207 (by decide) ?_
                  exact v_sub [0, 1, 2, 3, 4] rfl (K33 M39 1 h)
                refine v_icmp_gt (pc := 183) (tgt := 206) hX dL_build_183 (by decide) (fun h40 => ?_) (fun h40 => ?_)
                · have h := if_t h h40
                  exact v_sub [1, 2, 3, 4, 5] rfl (K38 M14 h)
                · have h := if_f h h40
                  refine v_aload_n (pc := 186) 1 hX dL_build_186 rfl ?_
                  refine v_iload (pc := 187) 0 hX dL_build_187 rfl ?_
                  refine v_iload (pc := 189) 6 hX dL_build_189 rfl ?_
                  refine v_iload (pc := 191) 7 hX dL_build_191 rfl ?_
                  refine v_iload (pc := 193) 8 hX dL_build_193 rfl ?_
                  obtain ⟨x42, M43, h41, h⟩ := b2_e h
                  refine v_callV (pc := 195) [.int x31, .int x20, .int x23, .int x26] (some (.int x42)) M43 hX cv_L_33 (c_X10_term (sub_cs hcs (Nat.le_of_ble_eq_true rfl) (Nat.le_of_ble_eq_true rfl)) M14 x31 x20 x23 x26 (x42, M43) h41) (hcs 0 (Nat.le_of_ble_eq_true rfl) (Nat.le_of_ble_eq_true rfl)) sh_0 rfl rfl rfl ⟨Nat.le_of_ble_eq_true rfl, Nat.le_of_ble_eq_true rfl⟩ (Nat.le_of_ble_eq_true rfl) dL_build_195 ?_
                  show VV X 12 ad cs M43 198 [(10, .int x31), (0, .ref (ad 0)), (1, .ref b), (2, .int w2), (4, .int x11), (5, .int x13), (7, .int x20), (8, .int x23), (9, .int x26)] [.int x42]
                  refine v_aload_n (pc := 198) 1 hX dL_build_198 rfl ?_
                  refine v_iconst (pc := 199) hX dL_build_199 ic_1 ?_
                  obtain ⟨x45, h44, h⟩ := b1_e h
                  refine v_callV (pc := 200) [.int 1] (some (.int x45)) M43 hX cv_L_16 (c_X10_count (sub_cs hcs (Nat.le_of_ble_eq_true rfl) (Nat.le_of_ble_eq_true rfl)) M43 1 x45 h44) (hcs 0 (Nat.le_of_ble_eq_true rfl) (Nat.le_of_ble_eq_true rfl)) sh_0 rfl rfl rfl ⟨Nat.le_of_ble_eq_true rfl, Nat.le_of_ble_eq_true rfl⟩ (Nat.le_of_ble_eq_true rfl) dL_build_200 ?_
                  show VV X 12 ad cs M43 203 [(10, .int x31), (0, .ref (ad 0)), (1, .ref b), (2, .int w2), (4, .int x11), (5, .int x13), (7, .int x20), (8, .int x23), (9, .int x26)] [.int x45, .int x42]
                  refine v_icmp_ne (pc := 203) (tgt := 210) hX dL_build_203 (by decide) (fun h46 => ?_) (fun h46 => ?_)
                  · have h := if_f h h46
                    refine v_iconst (pc := 210) hX dL_build_210 ic_0 ?_
                    exact v_sub [1, 2, 3, 4, 5] rfl (K33 M43 0 h)
                  · have h := if_t h h46
                    exact v_sub [1, 2, 3, 4, 5] rfl (K38 M43 h)
              refine v_if_ne (pc := 144) (tgt := 161) hX dL_build_144 (by decide) (fun h47 => ?_) (fun h47 => ?_)
              · have h := if_f h h47
                refine v_iconst (pc := 161) hX dL_build_161 ic_m1 ?_
                refine v_iload (pc := 162) 6 hX dL_build_162 rfl ?_
                refine v_iconst (pc := 164) hX dL_build_164 ic_1 ?_
                refine v_ishr (pc := 165) hX dL_build_165 ?_
                refine v_bipush (pc := 166) hX dL_build_166 bp_9 ?_
                obtain ⟨x49, h48, h⟩ := b1_e h
                refine v_callS (pc := 168) [.int (x18 >>> (1 &&& 31)), .int 9] (some (.int x49)) M14 hX cv_L_29 (c_L_low M14 (x18 >>> (1 &&& 31)) 9 x49 h48) rfl rfl ⟨Nat.le_of_ble_eq_true rfl, Nat.le_of_ble_eq_true rfl⟩ (Nat.le_of_ble_eq_true rfl) dL_build_168 ?_
                show VV X 12 ad cs M14 171 [(9, .int x26), (0, .ref (ad 0)), (1, .ref b), (2, .int w2), (4, .int x11), (5, .int x13), (6, .int x18), (7, .int x20), (8, .int x23)] [.int x49, .int (-1)]
                refine v_isub (pc := 171) hX dL_build_171 ?_
                exact v_sub [1, 2, 3, 4, 5, 7, 8, 0] rfl (K30 ((-1) - x49) h)
              · have h := if_t h h47
                refine v_iconst (pc := 147) hX dL_build_147 ic_1 ?_
                refine v_iload (pc := 148) 6 hX dL_build_148 rfl ?_
                refine v_iconst (pc := 150) hX dL_build_150 ic_1 ?_
                refine v_ishr (pc := 151) hX dL_build_151 ?_
                refine v_bipush (pc := 152) hX dL_build_152 bp_9 ?_
                obtain ⟨x51, h50, h⟩ := b1_e h
                refine v_callS (pc := 154) [.int (x18 >>> (1 &&& 31)), .int 9] (some (.int x51)) M14 hX cv_L_29 (c_L_low M14 (x18 >>> (1 &&& 31)) 9 x51 h50) rfl rfl ⟨Nat.le_of_ble_eq_true rfl, Nat.le_of_ble_eq_true rfl⟩ (Nat.le_of_ble_eq_true rfl) dL_build_154 ?_
                show VV X 12 ad cs M14 157 [(9, .int x26), (0, .ref (ad 0)), (1, .ref b), (2, .int w2), (4, .int x11), (5, .int x13), (6, .int x18), (7, .int x20), (8, .int x23)] [.int x51, .int 1]
                refine v_iadd (pc := 157) hX dL_build_157 ?_
                refine v_goto (pc := 158) (tgt := 172) hX dL_build_158 (by decide) ?_
                exact v_sub [1, 2, 3, 4, 5, 7, 8, 0] rfl (K30 (1 + x51) h)
            refine v_icmp_le (pc := 120) (tgt := 135) hX dL_build_120 (by decide) (fun h52 => ?_) (fun h52 => ?_)
            · have h := if_t h h52
              refine v_iconst (pc := 135) hX dL_build_135 ic_0 ?_
              exact v_sub [1, 2, 3, 4, 5, 6, 7, 0] rfl (K25 0 h)
            · have h := if_f h h52
              refine v_iload (pc := 123) 6 hX dL_build_123 rfl ?_
              refine v_bipush (pc := 125) hX dL_build_125 bp_12 ?_
              refine v_ishr (pc := 127) hX dL_build_127 ?_
              refine v_iconst (pc := 128) hX dL_build_128 ic_2 ?_
              obtain ⟨x54, h53, h⟩ := b1_e h
              refine v_callS (pc := 129) [.int (x18 >>> (12 &&& 31)), .int 2] (some (.int x54)) M14 hX cv_L_29 (c_L_low M14 (x18 >>> (12 &&& 31)) 2 x54 h53) rfl rfl ⟨Nat.le_of_ble_eq_true rfl, Nat.le_of_ble_eq_true rfl⟩ (Nat.le_of_ble_eq_true rfl) dL_build_129 ?_
              show VV X 12 ad cs M14 132 [(8, .int x23), (0, .ref (ad 0)), (1, .ref b), (2, .int w2), (4, .int x11), (5, .int x13), (6, .int x18), (7, .int x20)] [.int x54]
              refine v_goto (pc := 132) (tgt := 136) hX dL_build_132 (by decide) ?_
              exact v_sub [1, 2, 3, 4, 5, 6, 7, 0] rfl (K25 x54 h)
          refine v_icmp_le (pc := 100) (tgt := 115) hX dL_build_100 (by decide) (fun h55 => ?_) (fun h55 => ?_)
          · have h := if_t h h55
            refine v_iconst (pc := 115) hX dL_build_115 ic_0 ?_
            exact v_sub [2, 3, 4, 6, 7, 1, 0] rfl (K22 0 h)
          · have h := if_f h h55
            refine v_iload (pc := 103) 1 hX dL_build_103 rfl ?_
            refine v_bipush (pc := 105) hX dL_build_105 bp_10 ?_
            refine v_ishr (pc := 107) hX dL_build_107 ?_
            refine v_iconst (pc := 108) hX dL_build_108 ic_3 ?_
            obtain ⟨x57, h56, h⟩ := b1_e h
            refine v_callS (pc := 109) [.int (x18 >>> (10 &&& 31)), .int 3] (some (.int x57)) M14 hX cv_L_29 (c_L_low M14 (x18 >>> (10 &&& 31)) 3 x57 h56) rfl rfl ⟨Nat.le_of_ble_eq_true rfl, Nat.le_of_ble_eq_true rfl⟩ (Nat.le_of_ble_eq_true rfl) dL_build_109 ?_
            show VV X 12 ad cs M14 112 [(7, .int x20), (6, .int x18), (0, .ref (ad 0)), (1, .ref b), (2, .int w2), (3, .int x12), (4, .int x11), (5, .int x13)] [.int x57]
            refine v_goto (pc := 112) (tgt := 116) hX dL_build_112 (by decide) ?_
            exact v_sub [2, 3, 4, 6, 7, 1, 0] rfl (K22 x57 h)
    )
    obtain ⟨x59, M60, h197, h⟩ := b2_e h
    refine v_sub [3, 4, 5, 2, 1, 0] rfl ?_
    refine L58 1000 _ _ h197 ?_
    show VV X 12 ad cs M60 218 [(0, .ref (ad 0)), (1, .ref b), (2, .int w2), (3, .int x59)] []
    refine v_iconst (pc := 218) hX dL_build_218 ic_0 ?_
    refine v_istore (pc := 219) [(5, .int 0), (0, .ref (ad 0)), (1, .ref b), (2, .int w2), (3, .int x59)] hX dL_build_219 (by decide) rfl ?_
    have L124 := v_itr (fL_build_L221 L xs w2) (fun z => VV X 12 ad cs z.2.2 221 [(0, .ref (ad 0)), (1, .ref b), (2, .int w2), (3, .int z.1), (5, .int z.2.1)] []) (fun z => VV X 12 ad cs z.2 417 [(0, .ref (ad 0)), (1, .ref b), (2, .int w2), (3, .int z.1)] []) (by
      rintro ⟨x61, x62, M63⟩ q h hK
      unfold fL_build_L221 at h
      have h := u3_b h
      show VV X 12 ad cs M63 221 [(0, .ref (ad 0)), (1, .ref b), (2, .int w2), (3, .int x61), (5, .int x62)] []
      refine v_iload (pc := 221) 4 hX dL_build_221 rfl ?_
      refine v_iconst (pc := 223) hX dL_build_223 ic_4 ?_
      refine v_icmp_ge (pc := 224) (tgt := 417) hX dL_build_224 (by decide) (fun h64 => ?_) (fun h64 => ?_)
      · have h := if_t h h64
        obtain rfl := Option.some.inj h
        exact v_sub [0, 1, 2, 3] rfl hK
      · have h := if_f h h64
        refine v_iload_n (pc := 227) 3 hX dL_build_227 rfl ?_
        refine v_if_eq (pc := 228) (tgt := 417) hX dL_build_228 (by decide) (fun h65 => ?_) (fun h65 => ?_)
        · have h := if_t h h65
          obtain rfl := Option.some.inj h
          exact v_sub [0, 1, 2, 3] rfl hK
        · have h := if_f h h65
          refine v_aload_n (pc := 231) 1 hX dL_build_231 rfl ?_
          refine v_bipush (pc := 232) hX dL_build_232 bp_10 ?_
          refine v_iload (pc := 234) 4 hX dL_build_234 rfl ?_
          refine v_iadd (pc := 236) hX dL_build_236 ?_
          obtain ⟨x67, h66, h⟩ := b1_e h
          refine v_callSs (pc := 237) [.ref b, .int (10 + x62)] (some (.int x67)) M63 hX hZ cv_L_23 (c_L_cell b L xs M63 (10 + x62) x67 h66) rfl rfl ⟨Nat.le_of_ble_eq_true rfl, Nat.le_of_ble_eq_true rfl⟩ (Nat.le_of_ble_eq_true rfl) dL_build_237 ?_
          show VV X 12 ad cs M63 240 [(0, .ref (ad 0)), (1, .ref b), (2, .int w2), (3, .int x61), (5, .int x62)] [.int x67]
          refine v_istore (pc := 240) [(6, .int x67), (0, .ref (ad 0)), (1, .ref b), (2, .int w2), (3, .int x61), (5, .int x62)] hX dL_build_240 (by decide) rfl ?_
          refine v_iload (pc := 242) 0 hX dL_build_242 rfl ?_
          refine v_bipush (pc := 244) hX dL_build_244 bp_7 ?_
          obtain ⟨x69, h68, h⟩ := b1_e h
          refine v_callS (pc := 246) [.int x67, .int 7] (some (.int x69)) M63 hX cv_L_29 (c_L_low M63 x67 7 x69 h68) rfl rfl ⟨Nat.le_of_ble_eq_true rfl, Nat.le_of_ble_eq_true rfl⟩ (Nat.le_of_ble_eq_true rfl) dL_build_246 ?_
          show VV X 12 ad cs M63 249 [(6, .int x67), (0, .ref (ad 0)), (1, .ref b), (2, .int w2), (3, .int x61), (5, .int x62)] [.int x69]
          refine v_iconst (pc := 249) hX dL_build_249 ic_3 ?_
          refine v_isub (pc := 250) hX dL_build_250 ?_
          obtain ⟨x70, ex70, h⟩ := bd_e h
          refine v_top ex70 ?_
          refine v_istore (pc := 251) [(7, .int x70), (6, .int x67), (0, .ref (ad 0)), (1, .ref b), (2, .int w2), (3, .int x61), (5, .int x62)] hX dL_build_251 (by decide) rfl ?_
          refine v_iload_n (pc := 253) 4 hX dL_build_253 rfl ?_
          refine v_iconst (pc := 254) hX dL_build_254 ic_1 ?_
          obtain ⟨k71, ek71, h⟩ := bd_e h
          have K72 : ∀ (x73 : Int32), k71 x73 = some q → VV X 12 ad cs M63 273 [(0, .ref (ad 0)), (1, .ref b), (2, .int w2), (3, .int x61), (5, .int x62), (6, .int x67), (7, .int x70)] [.int x73] := by
            intro x73 h
            subst ek71
            refine v_istore (pc := 273) [(8, .int x73), (0, .ref (ad 0)), (1, .ref b), (2, .int w2), (3, .int x61), (5, .int x62), (6, .int x67), (7, .int x70)] hX dL_build_273 (by decide) rfl ?_
            refine v_iload_n (pc := 275) 3 hX dL_build_275 rfl ?_
            refine v_iconst (pc := 276) hX dL_build_276 ic_2 ?_
            obtain ⟨k74, ek74, h⟩ := bd_e h
            have K75 : ∀ (x76 : Int32), k74 x76 = some q → VV X 12 ad cs M63 296 [(0, .ref (ad 0)), (1, .ref b), (2, .int w2), (3, .int x61), (5, .int x62), (6, .int x67), (7, .int x70), (8, .int x73)] [.int x76] := by
              intro x76 h
              subst ek74
              refine v_istore (pc := 296) [(9, .int x76), (0, .ref (ad 0)), (1, .ref b), (2, .int w2), (3, .int x61), (5, .int x62), (6, .int x67), (7, .int x70), (8, .int x73)] hX dL_build_296 (by decide) rfl ?_
              refine v_aload_n (pc := 298) 1 hX dL_build_298 rfl ?_
              refine v_iconst (pc := 299) hX dL_build_299 ic_2 ?_
              obtain ⟨x78, h77, h⟩ := b1_e h
              refine v_callV (pc := 300) [.int 2] (some (.int x78)) M63 hX cv_L_16 (c_X10_count (sub_cs hcs (Nat.le_of_ble_eq_true rfl) (Nat.le_of_ble_eq_true rfl)) M63 2 x78 h77) (hcs 0 (Nat.le_of_ble_eq_true rfl) (Nat.le_of_ble_eq_true rfl)) sh_0 rfl rfl rfl ⟨Nat.le_of_ble_eq_true rfl, Nat.le_of_ble_eq_true rfl⟩ (Nat.le_of_ble_eq_true rfl) dL_build_300 ?_
              show VV X 12 ad cs M63 303 [(9, .int x76), (0, .ref (ad 0)), (1, .ref b), (2, .int w2), (3, .int x61), (5, .int x62), (6, .int x67), (7, .int x70), (8, .int x73)] [.int x78]
              refine v_istore (pc := 303) [(10, .int x78), (9, .int x76), (0, .ref (ad 0)), (1, .ref b), (2, .int w2), (3, .int x61), (5, .int x62), (6, .int x67), (7, .int x70), (8, .int x73)] hX dL_build_303 (by decide) rfl ?_
              refine v_iload (pc := 305) 7 hX dL_build_305 rfl ?_
              refine v_bipush (pc := 307) hX dL_build_307 bp_12 ?_
              refine v_ishr (pc := 309) hX dL_build_309 ?_
              refine v_iconst (pc := 310) hX dL_build_310 ic_3 ?_
              obtain ⟨x80, h79, h⟩ := b1_e h
              refine v_callS (pc := 311) [.int (x67 >>> (12 &&& 31)), .int 3] (some (.int x80)) M63 hX cv_L_29 (c_L_low M63 (x67 >>> (12 &&& 31)) 3 x80 h79) rfl rfl ⟨Nat.le_of_ble_eq_true rfl, Nat.le_of_ble_eq_true rfl⟩ (Nat.le_of_ble_eq_true rfl) dL_build_311 ?_
              show VV X 12 ad cs M63 314 [(10, .int x78), (9, .int x76), (0, .ref (ad 0)), (1, .ref b), (2, .int w2), (3, .int x61), (5, .int x62), (6, .int x67), (7, .int x70), (8, .int x73)] [.int x80]
              obtain ⟨k81, ek81, h⟩ := bd_e h
              have K82 : ∀ (x83 : Int32) (M84 : Mm), k81 x83 M84 = some q → VV X 12 ad cs M84 411 [(0, .ref (ad 0)), (1, .ref b), (2, .int w2), (3, .int x83), (5, .int x62)] [] := by
                intro x83 M84 h
                subst ek81
                obtain ⟨x85, ex85, h⟩ := bd_e h
                refine v_iinc (v := x85) (pc := 411) 4 [(5, .int x85), (0, .ref (ad 0)), (1, .ref b), (2, .int w2), (3, .int x83)] hX dL_build_411 rfl (ex85.trans (by rw [ic_1])) (by decide) rfl ?_
                refine v_goto (pc := 414) (tgt := 221) hX dL_build_414 (by decide) ?_
                obtain rfl := Option.some.inj h
                exact v_sub [1, 2, 3, 4, 0] rfl hK
              obtain ⟨k86, ek86, h⟩ := bd_e h
              have K87 : ∀ (_ : Unit), k86 () = some q → VV X 12 ad cs M63 352 [(0, .ref (ad 0)), (1, .ref b), (2, .int w2), (3, .int x61), (5, .int x62), (7, .int x70), (8, .int x73), (9, .int x76), (10, .int x78)] [] := by
                intro _ h
                subst ek86
                refine v_iload (pc := 352) 5 hX dL_build_352 rfl ?_
                obtain ⟨k88, ek88, h⟩ := bd_e h
                have K89 : ∀ (_ : Unit), k88 () = some q → VV X 12 ad cs M63 367 [(0, .ref (ad 0)), (1, .ref b), (2, .int w2), (5, .int x62), (7, .int x70), (8, .int x73), (9, .int x76), (10, .int x78)] [] := by
                  intro _ h
                  subst ek88
                  refine v_aload_n (pc := 367) 0 hX dL_build_367 rfl ?_
                  refine v_iload (pc := 368) 4 hX dL_build_368 rfl ?_
                  refine v_iload (pc := 370) 5 hX dL_build_370 rfl ?_
                  refine v_iload (pc := 372) 6 hX dL_build_372 rfl ?_
                  obtain ⟨x91, M92, h90, h⟩ := b2_e h
                  refine v_callV (pc := 374) [.int x70, .int x73, .int x76] (some (.int x91)) M92 hX cv_L_40 (c_X10_direction (sub_cs hcs (Nat.le_of_ble_eq_true rfl) (Nat.le_of_ble_eq_true rfl)) M63 x70 x73 x76 (x91, M92) h90) (hcs 0 (Nat.le_of_ble_eq_true rfl) (Nat.le_of_ble_eq_true rfl)) sh_0 rfl rfl rfl ⟨Nat.le_of_ble_eq_true rfl, Nat.le_of_ble_eq_true rfl⟩ (Nat.le_of_ble_eq_true rfl) dL_build_374 ?_
                  show VV X 12 ad cs M92 377 [(0, .ref (ad 0)), (1, .ref b), (2, .int w2), (5, .int x62), (7, .int x70), (8, .int x73), (9, .int x76), (10, .int x78)] [.int x91]
                  refine v_istore (pc := 377) [(11, .int x91), (0, .ref (ad 0)), (1, .ref b), (2, .int w2), (5, .int x62), (7, .int x70), (8, .int x73), (9, .int x76), (10, .int x78)] hX dL_build_377 (by decide) rfl ?_
                  refine v_iload (pc := 379) 0 hX dL_build_379 rfl ?_
                  refine v_ldc (pc := 381) hX kc_L_44 dL_build_381 ?_
                  obtain ⟨k93, ek93, h⟩ := bd_e h
                  have K94 : ∀ (x95 : Int32), k93 x95 = some q → VV X 12 ad cs M92 410 [(0, .ref (ad 0)), (1, .ref b), (2, .int w2), (5, .int x62)] [.int x95] := by
                    intro x95 h
                    subst ek93
                    refine v_istore_n (pc := 410) [(3, .int x95), (0, .ref (ad 0)), (1, .ref b), (2, .int w2), (5, .int x62)] hX dL_build_410 (by decide) rfl ?_
                    exact v_sub [1, 2, 3, 0, 4] rfl (K82 x95 M92 h)
                  obtain ⟨k96, ek96, h⟩ := bd_e h
                  have K97 : ∀ (_ : Unit), k96 () = some q → VV X 12 ad cs M92 405 [(0, .ref (ad 0)), (1, .ref b), (2, .int w2), (5, .int x62)] [] := by
                    intro _ h
                    subst ek96
                    refine v_iconst (pc := 405) hX dL_build_405 ic_1 ?_
                    refine v_goto (pc := 406) (tgt := 410) hX dL_build_406 (by decide) ?_
                    exact v_sub [0, 1, 2, 3] rfl (K94 1 h)
                  refine v_icmp_eq (pc := 383) (tgt := 405) hX dL_build_383 (by decide) (fun h98 => ?_) (fun h98 => ?_)
                  · have h := if_t h h98
                    exact v_sub [1, 2, 3, 4] rfl (K97 () h)
                  · have h := if_f h h98
                    refine v_iload (pc := 386) 0 hX dL_build_386 rfl ?_
                    refine v_iload (pc := 388) 8 hX dL_build_388 rfl ?_
                    refine v_bipush (pc := 390) hX dL_build_390 bp_8 ?_
                    obtain ⟨k99, ek99, h⟩ := bd_e h
                    have K100 : ∀ (x101 : Int32), k99 x101 = some q → VV X 12 ad cs M92 402 [(0, .ref (ad 0)), (1, .ref b), (2, .int w2), (5, .int x62)] [.int x101, .int x91] := by
                      intro x101 h
                      subst ek99
                      refine v_icmp_ne (pc := 402) (tgt := 409) hX dL_build_402 (by decide) (fun h102 => ?_) (fun h102 => ?_)
                      · have h := if_f h h102
                        refine v_iconst (pc := 409) hX dL_build_409 ic_0 ?_
                        exact v_sub [0, 1, 2, 3] rfl (K94 0 h)
                      · have h := if_t h h102
                        exact v_sub [0, 1, 2, 3] rfl (K97 () h)
                    refine v_icmp_ne (pc := 392) (tgt := 400) hX dL_build_392 (by decide) (fun h103 => ?_) (fun h103 => ?_)
                    · have h := if_f h h103
                      refine v_iload (pc := 400) 8 hX dL_build_400 rfl ?_
                      exact v_sub [1, 2, 3, 4] rfl (K100 x78 h)
                    · have h := if_t h h103
                      refine v_ldc (pc := 395) hX kc_L_45 dL_build_395 ?_
                      refine v_goto (pc := 397) (tgt := 402) hX dL_build_397 (by decide) ?_
                      exact v_sub [1, 2, 3, 4] rfl (K100 (-1000003) h)
                refine v_if_ne (pc := 354) (tgt := 367) hX dL_build_354 (by decide) (fun h104 => ?_) (fun h104 => ?_)
                · have h := if_f h h104
                  exact v_sub [0, 1, 2, 4, 5, 6, 7, 8] rfl (K89 () h)
                · have h := if_t h h104
                  refine v_iload (pc := 357) 6 hX dL_build_357 rfl ?_
                  refine v_if_ne (pc := 359) (tgt := 367) hX dL_build_359 (by decide) (fun h105 => ?_) (fun h105 => ?_)
                  · have h := if_f h h105
                    exact v_sub [0, 1, 2, 4, 5, 6, 7, 8] rfl (K89 () h)
                  · have h := if_t h h105
                    refine v_iload (pc := 362) 7 hX dL_build_362 rfl ?_
                    refine v_if_eq (pc := 364) (tgt := 411) hX dL_build_364 (by decide) (fun h106 => ?_) (fun h106 => ?_)
                    · have h := if_t h h106
                      exact v_sub [0, 1, 2, 3, 4] rfl (K82 x61 M63 h)
                    · have h := if_f h h106
                      exact v_sub [0, 1, 2, 4, 5, 6, 7, 8] rfl (K89 () h)
              refine v_if_ne (pc := 314) (tgt := 352) hX dL_build_314 (by decide) (fun h107 => ?_) (fun h107 => ?_)
              · have h := if_f h h107
                exact v_sub [2, 3, 4, 5, 6, 8, 9, 1, 0] rfl (K87 () h)
              · have h := if_t h h107
                refine v_iload (pc := 317) 0 hX dL_build_317 rfl ?_
                refine v_if_le (pc := 319) (tgt := 352) hX dL_build_319 (by decide) (fun h108 => ?_) (fun h108 => ?_)
                · have h := if_t h h108
                  exact v_sub [2, 3, 4, 5, 6, 8, 9, 1, 0] rfl (K87 () h)
                · have h := if_f h h108
                  refine v_aload_n (pc := 322) 2 hX dL_build_322 rfl ?_
                  refine v_iload (pc := 323) 7 hX dL_build_323 rfl ?_
                  refine v_bipush (pc := 325) hX dL_build_325 bp_14 ?_
                  refine v_ishr (pc := 327) hX dL_build_327 ?_
                  refine v_iload (pc := 328) 0 hX dL_build_328 rfl ?_
                  obtain ⟨x110, h109, h⟩ := b1_e h
                  refine v_callS (pc := 330) [.int (x67 >>> (14 &&& 31)), .int x78] (some (.int x110)) M63 hX cv_L_29 (c_L_low M63 (x67 >>> (14 &&& 31)) x78 x110 h109) rfl rfl ⟨Nat.le_of_ble_eq_true rfl, Nat.le_of_ble_eq_true rfl⟩ (Nat.le_of_ble_eq_true rfl) dL_build_330 ?_
                  show VV X 12 ad cs M63 333 [(10, .int x78), (9, .int x76), (0, .ref (ad 0)), (1, .ref b), (2, .int w2), (3, .int x61), (5, .int x62), (6, .int x67), (7, .int x70), (8, .int x73)] [.int x110, .ref (ad 0)]
                  obtain ⟨x112, M113, h111, h⟩ := b2_e h
                  refine v_callV (pc := 333) [.int x110] (some (.int x112)) M113 hX cv_L_37 (c_X10_dropDirection (sub_cs hcs (Nat.le_of_ble_eq_true rfl) (Nat.le_of_ble_eq_true rfl)) M63 x110 (x112, M113) h111) (hcs 0 (Nat.le_of_ble_eq_true rfl) (Nat.le_of_ble_eq_true rfl)) sh_0 rfl rfl rfl ⟨Nat.le_of_ble_eq_true rfl, Nat.le_of_ble_eq_true rfl⟩ (Nat.le_of_ble_eq_true rfl) dL_build_333 ?_
                  show VV X 12 ad cs M113 336 [(10, .int x78), (9, .int x76), (0, .ref (ad 0)), (1, .ref b), (2, .int w2), (3, .int x61), (5, .int x62), (6, .int x67), (7, .int x70), (8, .int x73)] [.int x112]
                  refine v_iload (pc := 336) 0 hX dL_build_336 rfl ?_
                  refine v_iconst (pc := 338) hX dL_build_338 ic_1 ?_
                  refine v_isub (pc := 339) hX dL_build_339 ?_
                  obtain ⟨k114, ek114, h⟩ := bd_e h
                  have K115 : ∀ (x116 : Int32), k114 x116 = some q → VV X 12 ad cs M113 348 [(0, .ref (ad 0)), (1, .ref b), (2, .int w2), (5, .int x62)] [.int x116] := by
                    intro x116 h
                    subst ek114
                    refine v_istore_n (pc := 348) [(3, .int x116), (0, .ref (ad 0)), (1, .ref b), (2, .int w2), (5, .int x62)] hX dL_build_348 (by decide) rfl ?_
                    refine v_goto (pc := 349) (tgt := 411) hX dL_build_349 (by decide) ?_
                    exact v_sub [1, 2, 3, 0, 4] rfl (K82 x116 M113 h)
                  refine v_icmp_ne (pc := 340) (tgt := 347) hX dL_build_340 (by decide) (fun h117 => ?_) (fun h117 => ?_)
                  · have h := if_f h h117
                    refine v_iconst (pc := 347) hX dL_build_347 ic_0 ?_
                    exact v_sub [2, 3, 4, 6] rfl (K115 0 h)
                  · have h := if_t h h117
                    refine v_iconst (pc := 343) hX dL_build_343 ic_1 ?_
                    refine v_goto (pc := 344) (tgt := 348) hX dL_build_344 (by decide) ?_
                    exact v_sub [2, 3, 4, 6] rfl (K115 1 h)
            refine v_icmp_le (pc := 277) (tgt := 295) hX dL_build_277 (by decide) (fun h118 => ?_) (fun h118 => ?_)
            · have h := if_t h h118
              refine v_iconst (pc := 295) hX dL_build_295 ic_0 ?_
              exact v_sub [1, 2, 3, 4, 5, 6, 7, 0] rfl (K75 0 h)
            · have h := if_f h h118
              refine v_iload (pc := 280) 6 hX dL_build_280 rfl ?_
              refine v_bipush (pc := 282) hX dL_build_282 bp_6 ?_
              refine v_ishr (pc := 284) hX dL_build_284 ?_
              refine v_bipush (pc := 285) hX dL_build_285 bp_7 ?_
              obtain ⟨x120, h119, h⟩ := b1_e h
              refine v_callS (pc := 287) [.int (x67 >>> (6 &&& 31)), .int 7] (some (.int x120)) M63 hX cv_L_29 (c_L_low M63 (x67 >>> (6 &&& 31)) 7 x120 h119) rfl rfl ⟨Nat.le_of_ble_eq_true rfl, Nat.le_of_ble_eq_true rfl⟩ (Nat.le_of_ble_eq_true rfl) dL_build_287 ?_
              show VV X 12 ad cs M63 290 [(8, .int x73), (0, .ref (ad 0)), (1, .ref b), (2, .int w2), (3, .int x61), (5, .int x62), (6, .int x67), (7, .int x70)] [.int x120]
              refine v_iconst (pc := 290) hX dL_build_290 ic_3 ?_
              refine v_isub (pc := 291) hX dL_build_291 ?_
              refine v_goto (pc := 292) (tgt := 296) hX dL_build_292 (by decide) ?_
              exact v_sub [1, 2, 3, 4, 5, 6, 7, 0] rfl (K75 (x120 - 3) h)
          refine v_icmp_le (pc := 255) (tgt := 272) hX dL_build_255 (by decide) (fun h121 => ?_) (fun h121 => ?_)
          · have h := if_t h h121
            refine v_iconst (pc := 272) hX dL_build_272 ic_0 ?_
            exact v_sub [2, 3, 4, 5, 6, 1, 0] rfl (K72 0 h)
          · have h := if_f h h121
            refine v_iload (pc := 258) 1 hX dL_build_258 rfl ?_
            refine v_iconst (pc := 260) hX dL_build_260 ic_3 ?_
            refine v_ishr (pc := 261) hX dL_build_261 ?_
            refine v_bipush (pc := 262) hX dL_build_262 bp_7 ?_
            obtain ⟨x123, h122, h⟩ := b1_e h
            refine v_callS (pc := 264) [.int (x67 >>> (3 &&& 31)), .int 7] (some (.int x123)) M63 hX cv_L_29 (c_L_low M63 (x67 >>> (3 &&& 31)) 7 x123 h122) rfl rfl ⟨Nat.le_of_ble_eq_true rfl, Nat.le_of_ble_eq_true rfl⟩ (Nat.le_of_ble_eq_true rfl) dL_build_264 ?_
            show VV X 12 ad cs M63 267 [(7, .int x70), (6, .int x67), (0, .ref (ad 0)), (1, .ref b), (2, .int w2), (3, .int x61), (5, .int x62)] [.int x123]
            refine v_iconst (pc := 267) hX dL_build_267 ic_3 ?_
            refine v_isub (pc := 268) hX dL_build_268 ?_
            refine v_goto (pc := 269) (tgt := 273) hX dL_build_269 (by decide) ?_
            exact v_sub [2, 3, 4, 5, 6, 1, 0] rfl (K72 (x123 - 3) h)
    )
    obtain ⟨x125, M126, h196, h⟩ := b2_e h
    refine v_sub [1, 2, 3, 4, 0] rfl ?_
    refine L124 1000 _ _ h196 ?_
    show VV X 12 ad cs M126 417 [(0, .ref (ad 0)), (1, .ref b), (2, .int w2), (3, .int x125)] []
    refine v_iconst (pc := 417) hX dL_build_417 ic_0 ?_
    refine v_istore (pc := 418) [(5, .int 0), (0, .ref (ad 0)), (1, .ref b), (2, .int w2), (3, .int x125)] hX dL_build_418 (by decide) rfl ?_
    have L153 := v_itr (fL_build_L420 w2 L xs) (fun z => VV X 12 ad cs z.2.2 420 [(0, .ref (ad 0)), (1, .ref b), (2, .int w2), (3, .int z.1), (5, .int z.2.1)] []) (fun z => VV X 12 ad cs z.2 508 [(0, .ref (ad 0)), (1, .ref b), (2, .int w2), (3, .int z.1)] []) (by
      rintro ⟨x127, x128, M129⟩ q h hK
      unfold fL_build_L420 at h
      have h := u3_b h
      show VV X 12 ad cs M129 420 [(0, .ref (ad 0)), (1, .ref b), (2, .int w2), (3, .int x127), (5, .int x128)] []
      refine v_iload (pc := 420) 4 hX dL_build_420 rfl ?_
      refine v_iload_n (pc := 422) 2 hX dL_build_422 rfl ?_
      refine v_icmp_ge (pc := 423) (tgt := 508) hX dL_build_423 (by decide) (fun h130 => ?_) (fun h130 => ?_)
      · have h := if_t h h130
        obtain rfl := Option.some.inj h
        exact v_sub [0, 1, 2, 3] rfl hK
      · have h := if_f h h130
        refine v_iload_n (pc := 426) 3 hX dL_build_426 rfl ?_
        refine v_if_eq (pc := 427) (tgt := 508) hX dL_build_427 (by decide) (fun h131 => ?_) (fun h131 => ?_)
        · have h := if_t h h131
          obtain rfl := Option.some.inj h
          exact v_sub [0, 1, 2, 3] rfl hK
        · have h := if_f h h131
          refine v_aload_n (pc := 430) 1 hX dL_build_430 rfl ?_
          refine v_bipush (pc := 431) hX dL_build_431 bp_16 ?_
          refine v_iload (pc := 433) 4 hX dL_build_433 rfl ?_
          refine v_iadd (pc := 435) hX dL_build_435 ?_
          obtain ⟨x133, h132, h⟩ := b1_e h
          refine v_callSs (pc := 436) [.ref b, .int (16 + x128)] (some (.int x133)) M129 hX hZ cv_L_23 (c_L_cell b L xs M129 (16 + x128) x133 h132) rfl rfl ⟨Nat.le_of_ble_eq_true rfl, Nat.le_of_ble_eq_true rfl⟩ (Nat.le_of_ble_eq_true rfl) dL_build_436 ?_
          show VV X 12 ad cs M129 439 [(0, .ref (ad 0)), (1, .ref b), (2, .int w2), (3, .int x127), (5, .int x128)] [.int x133]
          refine v_istore (pc := 439) [(6, .int x133), (0, .ref (ad 0)), (1, .ref b), (2, .int w2), (3, .int x127), (5, .int x128)] hX dL_build_439 (by decide) rfl ?_
          refine v_iconst (pc := 441) hX dL_build_441 ic_5 ?_
          refine v_iload (pc := 442) 0 hX dL_build_442 rfl ?_
          refine v_bipush (pc := 444) hX dL_build_444 bp_46 ?_
          obtain ⟨x135, h134, h⟩ := b1_e h
          refine v_callS (pc := 446) [.int x133, .int 46] (some (.int x135)) M129 hX cv_L_29 (c_L_low M129 x133 46 x135 h134) rfl rfl ⟨Nat.le_of_ble_eq_true rfl, Nat.le_of_ble_eq_true rfl⟩ (Nat.le_of_ble_eq_true rfl) dL_build_446 ?_
          show VV X 12 ad cs M129 449 [(6, .int x133), (0, .ref (ad 0)), (1, .ref b), (2, .int w2), (3, .int x127), (5, .int x128)] [.int x135, .int 5]
          refine v_iadd (pc := 449) hX dL_build_449 ?_
          obtain ⟨x136, ex136, h⟩ := bd_e h
          refine v_top ex136 ?_
          refine v_istore (pc := 450) [(7, .int x136), (6, .int x133), (0, .ref (ad 0)), (1, .ref b), (2, .int w2), (3, .int x127), (5, .int x128)] hX dL_build_450 (by decide) rfl ?_
          refine v_aload_n (pc := 452) 2 hX dL_build_452 rfl ?_
          refine v_iload (pc := 453) 6 hX dL_build_453 rfl ?_
          refine v_iload (pc := 455) 0 hX dL_build_455 rfl ?_
          refine v_ineg (pc := 457) hX dL_build_457 ?_
          refine v_iload (pc := 458) 0 hX dL_build_458 rfl ?_
          obtain ⟨x138, M139, h137, h⟩ := b2_e h
          refine v_callV (pc := 460) [.int x128, .int (-x136), .int x136] (some (.int x138)) M139 hX cv_L_46 (c_X10_bound (sub_cs hcs (Nat.le_of_ble_eq_true rfl) (Nat.le_of_ble_eq_true rfl)) M129 x128 (-x136) x136 (x138, M139) h137) (hcs 0 (Nat.le_of_ble_eq_true rfl) (Nat.le_of_ble_eq_true rfl)) sh_0 rfl rfl rfl ⟨Nat.le_of_ble_eq_true rfl, Nat.le_of_ble_eq_true rfl⟩ (Nat.le_of_ble_eq_true rfl) dL_build_460 ?_
          show VV X 12 ad cs M139 463 [(7, .int x136), (6, .int x133), (0, .ref (ad 0)), (1, .ref b), (2, .int w2), (3, .int x127), (5, .int x128)] [.int x138]
          refine v_iconst (pc := 463) hX dL_build_463 ic_1 ?_
          obtain ⟨k140, ek140, h⟩ := bd_e h
          have K141 : ∀ (x142 : Int32), k140 x142 = some q → VV X 12 ad cs M139 501 [(0, .ref (ad 0)), (1, .ref b), (2, .int w2), (5, .int x128)] [.int x142] := by
            intro x142 h
            subst ek140
            refine v_istore_n (pc := 501) [(3, .int x142), (0, .ref (ad 0)), (1, .ref b), (2, .int w2), (5, .int x128)] hX dL_build_501 (by decide) rfl ?_
            obtain ⟨x143, ex143, h⟩ := bd_e h
            refine v_iinc (v := x143) (pc := 502) 4 [(5, .int x143), (3, .int x142), (0, .ref (ad 0)), (1, .ref b), (2, .int w2)] hX dL_build_502 rfl (ex143.trans (by rw [ic_1])) (by decide) rfl ?_
            refine v_goto (pc := 505) (tgt := 420) hX dL_build_505 (by decide) ?_
            obtain rfl := Option.some.inj h
            exact v_sub [2, 3, 4, 1, 0] rfl hK
          obtain ⟨k144, ek144, h⟩ := bd_e h
          have K145 : ∀ (_ : Unit), k144 () = some q → VV X 12 ad cs M139 500 [(0, .ref (ad 0)), (1, .ref b), (2, .int w2), (5, .int x128)] [] := by
            intro _ h
            subst ek144
            refine v_iconst (pc := 500) hX dL_build_500 ic_0 ?_
            exact v_sub [0, 1, 2, 3] rfl (K141 0 h)
          refine v_icmp_ne (pc := 464) (tgt := 500) hX dL_build_464 (by decide) (fun h146 => ?_) (fun h146 => ?_)
          · have h := if_f h h146
            exact v_sub [2, 3, 4, 6] rfl (K145 () h)
          · have h := if_t h h146
            refine v_aload_n (pc := 467) 2 hX dL_build_467 rfl ?_
            refine v_bipush (pc := 468) hX dL_build_468 bp_10 ?_
            refine v_iload (pc := 470) 6 hX dL_build_470 rfl ?_
            refine v_iadd (pc := 472) hX dL_build_472 ?_
            obtain ⟨x148, h147, h⟩ := b1_e h
            refine v_callV (pc := 473) [.int (10 + x128)] (some (.int x148)) M139 hX cv_L_16 (c_X10_count (sub_cs hcs (Nat.le_of_ble_eq_true rfl) (Nat.le_of_ble_eq_true rfl)) M139 (10 + x128) x148 h147) (hcs 0 (Nat.le_of_ble_eq_true rfl) (Nat.le_of_ble_eq_true rfl)) sh_0 rfl rfl rfl ⟨Nat.le_of_ble_eq_true rfl, Nat.le_of_ble_eq_true rfl⟩ (Nat.le_of_ble_eq_true rfl) dL_build_473 ?_
            show VV X 12 ad cs M139 476 [(7, .int x136), (6, .int x133), (0, .ref (ad 0)), (1, .ref b), (2, .int w2), (3, .int x127), (5, .int x128)] [.int x148]
            refine v_iload (pc := 476) 0 hX dL_build_476 rfl ?_
            refine v_ineg (pc := 478) hX dL_build_478 ?_
            refine v_icmp_ne (pc := 479) (tgt := 500) hX dL_build_479 (by decide) (fun h149 => ?_) (fun h149 => ?_)
            · have h := if_f h h149
              exact v_sub [2, 3, 4, 6] rfl (K145 () h)
            · have h := if_t h h149
              refine v_aload_n (pc := 482) 2 hX dL_build_482 rfl ?_
              refine v_bipush (pc := 483) hX dL_build_483 bp_20 ?_
              refine v_iload (pc := 485) 6 hX dL_build_485 rfl ?_
              refine v_iadd (pc := 487) hX dL_build_487 ?_
              obtain ⟨x151, h150, h⟩ := b1_e h
              refine v_callV (pc := 488) [.int (20 + x128)] (some (.int x151)) M139 hX cv_L_16 (c_X10_count (sub_cs hcs (Nat.le_of_ble_eq_true rfl) (Nat.le_of_ble_eq_true rfl)) M139 (20 + x128) x151 h150) (hcs 0 (Nat.le_of_ble_eq_true rfl) (Nat.le_of_ble_eq_true rfl)) sh_0 rfl rfl rfl ⟨Nat.le_of_ble_eq_true rfl, Nat.le_of_ble_eq_true rfl⟩ (Nat.le_of_ble_eq_true rfl) dL_build_488 ?_
              show VV X 12 ad cs M139 491 [(7, .int x136), (6, .int x133), (0, .ref (ad 0)), (1, .ref b), (2, .int w2), (3, .int x127), (5, .int x128)] [.int x151]
              refine v_iload (pc := 491) 0 hX dL_build_491 rfl ?_
              refine v_icmp_ne (pc := 493) (tgt := 500) hX dL_build_493 (by decide) (fun h152 => ?_) (fun h152 => ?_)
              · have h := if_f h h152
                exact v_sub [2, 3, 4, 6] rfl (K145 () h)
              · have h := if_t h h152
                refine v_iconst (pc := 496) hX dL_build_496 ic_1 ?_
                refine v_goto (pc := 497) (tgt := 501) hX dL_build_497 (by decide) ?_
                exact v_sub [2, 3, 4, 6] rfl (K141 1 h)
    )
    obtain ⟨x154, M155, h195, h⟩ := b2_e h
    refine v_sub [1, 2, 3, 4, 0] rfl ?_
    refine L153 1000 _ _ h195 ?_
    show VV X 12 ad cs M155 508 [(0, .ref (ad 0)), (1, .ref b), (2, .int w2), (3, .int x154)] []
    refine v_aload_n (pc := 508) 1 hX dL_build_508 rfl ?_
    refine v_bipush (pc := 509) hX dL_build_509 bp_20 ?_
    obtain ⟨x157, h156, h⟩ := b1_e h
    refine v_callSs (pc := 511) [.ref b, .int 20] (some (.int x157)) M155 hX hZ cv_L_23 (c_L_cell b L xs M155 20 x157 h156) rfl rfl ⟨Nat.le_of_ble_eq_true rfl, Nat.le_of_ble_eq_true rfl⟩ (Nat.le_of_ble_eq_true rfl) dL_build_511 ?_
    show VV X 12 ad cs M155 514 [(0, .ref (ad 0)), (1, .ref b), (2, .int w2), (3, .int x154)] [.int x157]
    refine v_istore (pc := 514) [(5, .int x157), (0, .ref (ad 0)), (1, .ref b), (2, .int w2), (3, .int x154)] hX dL_build_514 (by decide) rfl ?_
    refine v_iload_n (pc := 516) 4 hX dL_build_516 rfl ?_
    obtain ⟨k158, ek158, h⟩ := bd_e h
    have K159 : ∀ (M160 : Mm) (x161 : Int32), k158 M160 x161 = some q → VV X 12 ad cs M160 546 [(0, .ref (ad 0)), (2, .int w2), (5, .int x157)] [.int x161] := by
      intro M160 x161 h
      subst ek158
      refine v_istore_n (pc := 546) [(3, .int x161), (0, .ref (ad 0)), (2, .int w2), (5, .int x157)] hX dL_build_546 (by decide) rfl ?_
      refine v_iload_n (pc := 547) 0 hX dL_build_547 rfl ?_
      refine v_if_eq (pc := 548) (tgt := 625) hX dL_build_548 (by decide) (fun h162 => ?_) (fun h162 => ?_)
      · have h := if_t h h162
        refine v_iconst (pc := 625) hX dL_build_625 ic_0 ?_
        obtain rfl := Option.some.inj h
        exact v_zret (pc := 626) hX hR (Or.inl rfl) dL_build_626
      · have h := if_f h h162
        refine v_aload_n (pc := 551) 1 hX dL_build_551 rfl ?_
        refine v_iload (pc := 552) 3 hX dL_build_552 rfl ?_
        refine v_iconst (pc := 554) hX dL_build_554 ic_4 ?_
        refine v_ishr (pc := 555) hX dL_build_555 ?_
        refine v_bipush (pc := 556) hX dL_build_556 bp_11 ?_
        obtain ⟨x164, h163, h⟩ := b1_e h
        refine v_callS (pc := 558) [.int (x157 >>> (4 &&& 31)), .int 11] (some (.int x164)) M160 hX cv_L_29 (c_L_low M160 (x157 >>> (4 &&& 31)) 11 x164 h163) rfl rfl ⟨Nat.le_of_ble_eq_true rfl, Nat.le_of_ble_eq_true rfl⟩ (Nat.le_of_ble_eq_true rfl) dL_build_558 ?_
        show VV X 12 ad cs M160 561 [(3, .int x161), (0, .ref (ad 0)), (2, .int w2), (5, .int x157)] [.int x164, .ref (ad 0)]
        refine v_iconst (pc := 561) hX dL_build_561 ic_5 ?_
        refine v_isub (pc := 562) hX dL_build_562 ?_
        refine v_iload_n (pc := 563) 2 hX dL_build_563 rfl ?_
        refine v_iconst (pc := 564) hX dL_build_564 ic_1 ?_
        obtain ⟨k165, ek165, h⟩ := bd_e h
        have K166 : ∀ (x167 : Int32), k165 x167 = some q → VV X 12 ad cs M160 584 [(2, .int w2), (5, .int x157)] [.int x167, .int (x164 - 5), .ref (ad 0)] := by
          intro x167 h
          subst ek165
          refine v_iload_n (pc := 584) 0 hX dL_build_584 rfl ?_
          refine v_iconst (pc := 585) hX dL_build_585 ic_2 ?_
          obtain ⟨k168, ek168, h⟩ := bd_e h
          have K169 : ∀ (x170 : Int32), k168 x170 = some q → VV X 12 ad cs M160 605 [(5, .int x157)] [.int x170, .int x167, .int (x164 - 5), .ref (ad 0)] := by
            intro x170 h
            subst ek168
            refine v_iload (pc := 605) 0 hX dL_build_605 rfl ?_
            refine v_bipush (pc := 607) hX dL_build_607 bp_16 ?_
            refine v_ishr (pc := 609) hX dL_build_609 ?_
            refine v_iconst (pc := 610) hX dL_build_610 ic_5 ?_
            obtain ⟨x172, h171, h⟩ := b1_e h
            refine v_callS (pc := 611) [.int (x157 >>> (16 &&& 31)), .int 5] (some (.int x172)) M160 hX cv_L_29 (c_L_low M160 (x157 >>> (16 &&& 31)) 5 x172 h171) rfl rfl ⟨Nat.le_of_ble_eq_true rfl, Nat.le_of_ble_eq_true rfl⟩ (Nat.le_of_ble_eq_true rfl) dL_build_611 ?_
            show VV X 12 ad cs M160 614 [(5, .int x157)] [.int x172, .int x170, .int x167, .int (x164 - 5), .ref (ad 0)]
            obtain ⟨x174, M175, h173, h⟩ := b2_e h
            refine v_callV (pc := 614) [.int (x164 - 5), .int x167, .int x170, .int x172] (some (.int x174)) M175 hX cv_L_52 (c_X10_start (sub_cs hcs (Nat.le_of_ble_eq_true rfl) (Nat.le_of_ble_eq_true rfl)) M160 (x164 - 5) x167 x170 x172 (x174, M175) h173) (hcs 0 (Nat.le_of_ble_eq_true rfl) (Nat.le_of_ble_eq_true rfl)) sh_0 rfl rfl rfl ⟨Nat.le_of_ble_eq_true rfl, Nat.le_of_ble_eq_true rfl⟩ (Nat.le_of_ble_eq_true rfl) dL_build_614 ?_
            show VV X 12 ad cs M175 617 [(5, .int x157)] [.int x174]
            refine v_iconst (pc := 617) hX dL_build_617 ic_1 ?_
            refine v_icmp_ne (pc := 618) (tgt := 625) hX dL_build_618 (by decide) (fun h176 => ?_) (fun h176 => ?_)
            · have h := if_f h h176
              refine v_iconst (pc := 625) hX dL_build_625 ic_0 ?_
              obtain rfl := Option.some.inj h
              exact v_zret (pc := 626) hX hR (Or.inl rfl) dL_build_626
            · have h := if_t h h176
              refine v_iconst (pc := 621) hX dL_build_621 ic_1 ?_
              refine v_goto (pc := 622) (tgt := 626) hX dL_build_622 (by decide) ?_
              obtain rfl := Option.some.inj h
              exact v_zret (pc := 626) hX hR (Or.inr rfl) dL_build_626
          refine v_icmp_le (pc := 586) (tgt := 604) hX dL_build_586 (by decide) (fun h177 => ?_) (fun h177 => ?_)
          · have h := if_t h h177
            refine v_iconst (pc := 604) hX dL_build_604 ic_0 ?_
            exact v_sub [1] rfl (K169 0 h)
          · have h := if_f h h177
            refine v_iload (pc := 589) 1 hX dL_build_589 rfl ?_
            refine v_bipush (pc := 591) hX dL_build_591 bp_12 ?_
            refine v_ishr (pc := 593) hX dL_build_593 ?_
            refine v_bipush (pc := 594) hX dL_build_594 bp_11 ?_
            obtain ⟨x179, h178, h⟩ := b1_e h
            refine v_callS (pc := 596) [.int (x157 >>> (12 &&& 31)), .int 11] (some (.int x179)) M160 hX cv_L_29 (c_L_low M160 (x157 >>> (12 &&& 31)) 11 x179 h178) rfl rfl ⟨Nat.le_of_ble_eq_true rfl, Nat.le_of_ble_eq_true rfl⟩ (Nat.le_of_ble_eq_true rfl) dL_build_596 ?_
            show VV X 12 ad cs M160 599 [(2, .int w2), (5, .int x157)] [.int x179, .int x167, .int (x164 - 5), .ref (ad 0)]
            refine v_iconst (pc := 599) hX dL_build_599 ic_5 ?_
            refine v_isub (pc := 600) hX dL_build_600 ?_
            refine v_goto (pc := 601) (tgt := 605) hX dL_build_601 (by decide) ?_
            exact v_sub [1] rfl (K169 (x179 - 5) h)
        refine v_icmp_le (pc := 565) (tgt := 583) hX dL_build_565 (by decide) (fun h180 => ?_) (fun h180 => ?_)
        · have h := if_t h h180
          refine v_iconst (pc := 583) hX dL_build_583 ic_0 ?_
          exact v_sub [2, 3] rfl (K166 0 h)
        · have h := if_f h h180
          refine v_iload (pc := 568) 3 hX dL_build_568 rfl ?_
          refine v_bipush (pc := 570) hX dL_build_570 bp_8 ?_
          refine v_ishr (pc := 572) hX dL_build_572 ?_
          refine v_bipush (pc := 573) hX dL_build_573 bp_11 ?_
          obtain ⟨x182, h181, h⟩ := b1_e h
          refine v_callS (pc := 575) [.int (x157 >>> (8 &&& 31)), .int 11] (some (.int x182)) M160 hX cv_L_29 (c_L_low M160 (x157 >>> (8 &&& 31)) 11 x182 h181) rfl rfl ⟨Nat.le_of_ble_eq_true rfl, Nat.le_of_ble_eq_true rfl⟩ (Nat.le_of_ble_eq_true rfl) dL_build_575 ?_
          show VV X 12 ad cs M160 578 [(3, .int x161), (0, .ref (ad 0)), (2, .int w2), (5, .int x157)] [.int x182, .int (x164 - 5), .ref (ad 0)]
          refine v_iconst (pc := 578) hX dL_build_578 ic_5 ?_
          refine v_isub (pc := 579) hX dL_build_579 ?_
          refine v_goto (pc := 580) (tgt := 584) hX dL_build_580 (by decide) ?_
          exact v_sub [2, 3] rfl (K166 (x182 - 5) h)
    obtain ⟨k183, ek183, h⟩ := bd_e h
    have K184 : ∀ (M185 : Mm), k183 M185 = some q → VV X 12 ad cs M185 545 [(0, .ref (ad 0)), (2, .int w2), (5, .int x157)] [] := by
      intro M185 h
      subst ek183
      refine v_iconst (pc := 545) hX dL_build_545 ic_0 ?_
      exact v_sub [0, 1, 2] rfl (K159 M185 0 h)
    refine v_if_eq (pc := 517) (tgt := 545) hX dL_build_517 (by decide) (fun h186 => ?_) (fun h186 => ?_)
    · have h := if_t h h186
      exact v_sub [1, 3, 0] rfl (K184 M155 h)
    · have h := if_f h h186
      refine v_aload_n (pc := 520) 1 hX dL_build_520 rfl ?_
      refine v_iload (pc := 521) 0 hX dL_build_521 rfl ?_
      refine v_iconst (pc := 523) hX dL_build_523 ic_3 ?_
      obtain ⟨x188, h187, h⟩ := b1_e h
      refine v_callS (pc := 524) [.int x157, .int 3] (some (.int x188)) M155 hX cv_L_29 (c_L_low M155 x157 3 x188 h187) rfl rfl ⟨Nat.le_of_ble_eq_true rfl, Nat.le_of_ble_eq_true rfl⟩ (Nat.le_of_ble_eq_true rfl) dL_build_524 ?_
      show VV X 12 ad cs M155 527 [(5, .int x157), (0, .ref (ad 0)), (1, .ref b), (2, .int w2), (3, .int x154)] [.int x188, .ref (ad 0)]
      refine v_iload (pc := 527) 0 hX dL_build_527 rfl ?_
      refine v_iconst (pc := 529) hX dL_build_529 ic_2 ?_
      refine v_ishr (pc := 530) hX dL_build_530 ?_
      refine v_iconst (pc := 531) hX dL_build_531 ic_2 ?_
      obtain ⟨x190, h189, h⟩ := b1_e h
      refine v_callS (pc := 532) [.int (x157 >>> (2 &&& 31)), .int 2] (some (.int x190)) M155 hX cv_L_29 (c_L_low M155 (x157 >>> (2 &&& 31)) 2 x190 h189) rfl rfl ⟨Nat.le_of_ble_eq_true rfl, Nat.le_of_ble_eq_true rfl⟩ (Nat.le_of_ble_eq_true rfl) dL_build_532 ?_
      show VV X 12 ad cs M155 535 [(5, .int x157), (0, .ref (ad 0)), (1, .ref b), (2, .int w2), (3, .int x154)] [.int x190, .int x188, .ref (ad 0)]
      obtain ⟨x192, M193, h191, h⟩ := b2_e h
      refine v_callV (pc := 535) [.int x188, .int x190] (some (.int x192)) M193 hX cv_L_49 (c_X10_order (sub_cs hcs (Nat.le_of_ble_eq_true rfl) (Nat.le_of_ble_eq_true rfl)) M155 x188 x190 (x192, M193) h191) (hcs 0 (Nat.le_of_ble_eq_true rfl) (Nat.le_of_ble_eq_true rfl)) sh_0 rfl rfl rfl ⟨Nat.le_of_ble_eq_true rfl, Nat.le_of_ble_eq_true rfl⟩ (Nat.le_of_ble_eq_true rfl) dL_build_535 ?_
      show VV X 12 ad cs M193 538 [(5, .int x157), (0, .ref (ad 0)), (1, .ref b), (2, .int w2), (3, .int x154)] [.int x192]
      refine v_if_ne (pc := 538) (tgt := 545) hX dL_build_538 (by decide) (fun h194 => ?_) (fun h194 => ?_)
      · have h := if_f h h194
        exact v_sub [1, 3, 0] rfl (K184 M193 h)
      · have h := if_t h h194
        refine v_iconst (pc := 541) hX dL_build_541 ic_1 ?_
        refine v_goto (pc := 542) (tgt := 546) hX dL_build_542 (by decide) ?_
        exact v_sub [1, 3, 0] rfl (K159 M193 1 h)
  obtain ⟨k198, ek198, h⟩ := bd_e h
  have K199 : ∀ (M200 : Mm), k198 M200 = some q → VV X 12 ad cs M200 49 [(0, .ref (ad 0)), (1, .ref b), (2, .int w2)] [] := by
    intro M200 h
    subst ek198
    refine v_iconst (pc := 49) hX dL_build_49 ic_0 ?_
    exact v_sub [0, 1, 2] rfl (K5 M200 0 h)
  refine v_icmp_ne (pc := 6) (tgt := 49) hX dL_build_6 (by decide) (fun h201 => ?_) (fun h201 => ?_)
  · have h := if_f h h201
    exact v_sub [0, 1, 2] rfl (K199 M3 h)
  · have h := if_t h h201
    refine v_aload_n (pc := 9) 0 hX dL_build_9 rfl ?_
    refine v_iconst (pc := 10) hX dL_build_10 ic_0 ?_
    obtain ⟨x203, h202, h⟩ := b1_e h
    refine v_callV (pc := 11) [.int 0] (some (.int x203)) M3 hX cv_L_16 (c_X10_count (sub_cs hcs (Nat.le_of_ble_eq_true rfl) (Nat.le_of_ble_eq_true rfl)) M3 0 x203 h202) (hcs 0 (Nat.le_of_ble_eq_true rfl) (Nat.le_of_ble_eq_true rfl)) sh_0 rfl rfl rfl ⟨Nat.le_of_ble_eq_true rfl, Nat.le_of_ble_eq_true rfl⟩ (Nat.le_of_ble_eq_true rfl) dL_build_11 ?_
    show VV X 12 ad cs M3 14 [(0, .ref (ad 0)), (1, .ref b), (2, .int w2)] [.int x203]
    refine v_iload_n (pc := 14) 2 hX dL_build_14 rfl ?_
    refine v_icmp_ne (pc := 15) (tgt := 49) hX dL_build_15 (by decide) (fun h204 => ?_) (fun h204 => ?_)
    · have h := if_f h h204
      exact v_sub [0, 1, 2] rfl (K199 M3 h)
    · have h := if_t h h204
      refine v_aload_n (pc := 18) 0 hX dL_build_18 rfl ?_
      refine v_iconst (pc := 19) hX dL_build_19 ic_2 ?_
      obtain ⟨x206, h205, h⟩ := b1_e h
      refine v_callV (pc := 20) [.int 2] (some (.int x206)) M3 hX cv_L_16 (c_X10_count (sub_cs hcs (Nat.le_of_ble_eq_true rfl) (Nat.le_of_ble_eq_true rfl)) M3 2 x206 h205) (hcs 0 (Nat.le_of_ble_eq_true rfl) (Nat.le_of_ble_eq_true rfl)) sh_0 rfl rfl rfl ⟨Nat.le_of_ble_eq_true rfl, Nat.le_of_ble_eq_true rfl⟩ (Nat.le_of_ble_eq_true rfl) dL_build_20 ?_
      show VV X 12 ad cs M3 23 [(0, .ref (ad 0)), (1, .ref b), (2, .int w2)] [.int x206]
      refine v_iconst (pc := 23) hX dL_build_23 ic_2 ?_
      refine v_iload_n (pc := 24) 2 hX dL_build_24 rfl ?_
      refine v_imul (pc := 25) hX dL_build_25 ?_
      refine v_icmp_ne (pc := 26) (tgt := 49) hX dL_build_26 (by decide) (fun h207 => ?_) (fun h207 => ?_)
      · have h := if_f h h207
        exact v_sub [0, 1, 2] rfl (K199 M3 h)
      · have h := if_t h h207
        refine v_aload_n (pc := 29) 0 hX dL_build_29 rfl ?_
        refine v_iconst (pc := 30) hX dL_build_30 ic_1 ?_
        obtain ⟨x209, h208, h⟩ := b1_e h
        refine v_callV (pc := 31) [.int 1] (some (.int x209)) M3 hX cv_L_16 (c_X10_count (sub_cs hcs (Nat.le_of_ble_eq_true rfl) (Nat.le_of_ble_eq_true rfl)) M3 1 x209 h208) (hcs 0 (Nat.le_of_ble_eq_true rfl) (Nat.le_of_ble_eq_true rfl)) sh_0 rfl rfl rfl ⟨Nat.le_of_ble_eq_true rfl, Nat.le_of_ble_eq_true rfl⟩ (Nat.le_of_ble_eq_true rfl) dL_build_31 ?_
        show VV X 12 ad cs M3 34 [(0, .ref (ad 0)), (1, .ref b), (2, .int w2)] [.int x209]
        refine v_if_ne (pc := 34) (tgt := 49) hX dL_build_34 (by decide) (fun h210 => ?_) (fun h210 => ?_)
        · have h := if_f h h210
          exact v_sub [0, 1, 2] rfl (K199 M3 h)
        · have h := if_t h h210
          refine v_aload_n (pc := 37) 0 hX dL_build_37 rfl ?_
          obtain ⟨x212, M213, h211, h⟩ := b2_e h
          refine v_callV (pc := 38) [] (some (.int x212)) M213 hX cv_L_19 (c_X10_spans (sub_cs hcs (Nat.le_of_ble_eq_true rfl) (Nat.le_of_ble_eq_true rfl)) M3 (x212, M213) h211) (hcs 0 (Nat.le_of_ble_eq_true rfl) (Nat.le_of_ble_eq_true rfl)) sh_0 rfl rfl rfl ⟨Nat.le_of_ble_eq_true rfl, Nat.le_of_ble_eq_true rfl⟩ (Nat.le_of_ble_eq_true rfl) dL_build_38 ?_
          show VV X 12 ad cs M213 41 [(0, .ref (ad 0)), (1, .ref b), (2, .int w2)] [.int x212]
          refine v_iconst (pc := 41) hX dL_build_41 ic_1 ?_
          refine v_icmp_ne (pc := 42) (tgt := 49) hX dL_build_42 (by decide) (fun h214 => ?_) (fun h214 => ?_)
          · have h := if_f h h214
            exact v_sub [0, 1, 2] rfl (K199 M213 h)
          · have h := if_t h h214
            refine v_iconst (pc := 45) hX dL_build_45 ic_1 ?_
            refine v_goto (pc := 46) (tgt := 50) hX dL_build_46 (by decide) ?_
            exact v_sub [0, 1, 2] rfl (K5 M213 1 h)
