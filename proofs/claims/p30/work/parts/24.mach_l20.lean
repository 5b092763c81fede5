set_option maxHeartbeats 4000000 in
set_option maxRecDepth 100000 in
theorem v_law {X : XT} {ad : Nat → Nat} {cs : List Nat} (hcs : ∀ k, 0 ≤ k → k < 96 → k ∈ cs) (b L : Nat) (xs : Nat → Int32) (M : Mm) (q : Int32 × Mm) (h : fL_law L xs M = some q) (hq : q.1 = 1) (hX : XOK X 8 ad cs cL_law RL 9 396) (hZ : SZ X b L xs) (fin : ∀ pc M lv, decode cL_law pc = .ok (.ireturn, 1) → VV X 8 ad cs M pc lv [.int 1]) : VV X 8 ad cs M 13 [(0, .ref b), (1, .ref (ad 0)), (2, .ref (ad 95))] [] := by
  unfold fL_law at h
  refine v_iconst (pc := 13) hX dL_law_13 ic_1 ?_
  refine v_aload_n (pc := 14) 0 hX dL_law_14 rfl ?_
  refine v_iconst (pc := 15) hX dL_law_15 ic_0 ?_
  obtain ⟨x2, h1, h⟩ := b1_e h
  refine v_callSs (pc := 16) [.ref b, .int 0] (some (.int x2)) M hX hZ cv_L_23 (c_L_cell b L xs M 0 x2 h1) rfl rfl ⟨Nat.le_of_ble_eq_true rfl, Nat.le_of_ble_eq_true rfl⟩ (Nat.le_of_ble_eq_true rfl) dL_law_16 ?_
  show VV X 8 ad cs M 19 [(0, .ref b), (1, .ref (ad 0)), (2, .ref (ad 95))] [.int x2, .int 1]
  refine v_iconst (pc := 19) hX dL_law_19 ic_3 ?_
  obtain ⟨x4, h3, h⟩ := b1_e h
  refine v_callS (pc := 20) [.int x2, .int 3] (some (.int x4)) M hX cv_L_29 (c_L_low M x2 3 x4 h3) rfl rfl ⟨Nat.le_of_ble_eq_true rfl, Nat.le_of_ble_eq_true rfl⟩ (Nat.le_of_ble_eq_true rfl) dL_law_20 ?_
  show VV X 8 ad cs M 23 [(0, .ref b), (1, .ref (ad 0)), (2, .ref (ad 95))] [.int x4, .int 1]
  refine v_iadd (pc := 23) hX dL_law_23 ?_
  obtain ⟨x5, ex5, h⟩ := bd_e h
  refine v_top ex5 ?_
  refine v_istore_n (pc := 24) [(3, .int x5), (0, .ref b), (1, .ref (ad 0)), (2, .ref (ad 95))] hX dL_law_24 (by decide) rfl ?_
  refine v_aload_n (pc := 25) 2 hX dL_law_25 rfl ?_
  refine v_aload_n (pc := 26) 1 hX dL_law_26 rfl ?_
  refine v_iload_n (pc := 27) 0 hX dL_law_27 rfl ?_
  obtain ⟨x7, M8, h6, h⟩ := b2_e h
  refine v_callSs (pc := 28) [.ref (ad 0), .ref b, .int x5] (some (.int x7)) M8 hX hZ cv_L_107 (c_L_build (sub_cs hcs (Nat.le_of_ble_eq_true rfl) (Nat.le_of_ble_eq_true rfl)) b L xs M x5 (x7, M8) h6) rfl rfl ⟨Nat.le_of_ble_eq_true rfl, Nat.le_of_ble_eq_true rfl⟩ (Nat.le_of_ble_eq_true rfl) dL_law_28 ?_
  show VV X 8 ad cs M8 31 [(3, .int x5), (0, .ref b), (1, .ref (ad 0)), (2, .ref (ad 95))] [.int x7]
  refine v_if_eq (pc := 31) (tgt := 58) hX dL_law_31 (by decide) (fun h9 => ?_) (fun h9 => ?_)
  · have h := if_t h h9
    refine v_iconst (pc := 58) hX dL_law_58 ic_0 ?_
    exact v_fin (pc := 59) ((congrArg Prod.fst (Option.some.inj h)).trans hq) (fin _ _ _ dL_law_59)
  · have h := if_f h h9
    refine v_aload_n (pc := 34) 2 hX dL_law_34 rfl ?_
    obtain ⟨x11, M12, h10, h⟩ := b2_e h
    refine v_callS (pc := 35) [.ref (ad 0)] (some (.int x11)) M12 hX cv_L_111 (c_L_spans (sub_cs hcs (Nat.le_of_ble_eq_true rfl) (Nat.le_of_ble_eq_true rfl)) M8 (x11, M12) h10) rfl rfl ⟨Nat.le_of_ble_eq_true rfl, Nat.le_of_ble_eq_true rfl⟩ (Nat.le_of_ble_eq_true rfl) dL_law_35 ?_
    show VV X 8 ad cs M12 38 [(3, .int x5), (0, .ref b), (1, .ref (ad 0)), (2, .ref (ad 95))] [.int x11]
    refine v_if_eq (pc := 38) (tgt := 58) hX dL_law_38 (by decide) (fun h13 => ?_) (fun h13 => ?_)
    · have h := if_t h h13
      refine v_iconst (pc := 58) hX dL_law_58 ic_0 ?_
      exact v_fin (pc := 59) ((congrArg Prod.fst (Option.some.inj h)).trans hq) (fin _ _ _ dL_law_59)
    · have h := if_f h h13
      refine v_aload_n (pc := 41) 2 hX dL_law_41 rfl ?_
      refine v_aload_n (pc := 42) 1 hX dL_law_42 rfl ?_
      refine v_bipush (pc := 43) hX dL_law_43 bp_21 ?_
      obtain ⟨x15, h14, h⟩ := b1_e h
      refine v_callSs (pc := 45) [.ref b, .int 21] (some (.int x15)) M12 hX hZ cv_L_23 (c_L_cell b L xs M12 21 x15 h14) rfl rfl ⟨Nat.le_of_ble_eq_true rfl, Nat.le_of_ble_eq_true rfl⟩ (Nat.le_of_ble_eq_true rfl) dL_law_45 ?_
      show VV X 8 ad cs M12 48 [(3, .int x5), (0, .ref b), (1, .ref (ad 0)), (2, .ref (ad 95))] [.int x15, .ref (ad 0)]
      refine v_iconst (pc := 48) hX dL_law_48 ic_3 ?_
      obtain ⟨x17, h16, h⟩ := b1_e h
      refine v_callS (pc := 49) [.int x15, .int 3] (some (.int x17)) M12 hX cv_L_29 (c_L_low M12 x15 3 x17 h16) rfl rfl ⟨Nat.le_of_ble_eq_true rfl, Nat.le_of_ble_eq_true rfl⟩ (Nat.le_of_ble_eq_true rfl) dL_law_49 ?_
      show VV X 8 ad cs M12 52 [(3, .int x5), (0, .ref b), (1, .ref (ad 0)), (2, .ref (ad 95))] [.int x17, .ref (ad 0)]
      obtain ⟨x19, M20, h18, h⟩ := b2_e h
      refine v_callS (pc := 52) [.ref (ad 0), .int x17] (some (.int x19)) M20 hX cv_L_114 (c_L_around (sub_cs hcs (Nat.le_of_ble_eq_true rfl) (Nat.le_of_ble_eq_true rfl)) M12 x17 (x19, M20) h18) rfl rfl ⟨Nat.le_of_ble_eq_true rfl, Nat.le_of_ble_eq_true rfl⟩ (Nat.le_of_ble_eq_true rfl) dL_law_52 ?_
      show VV X 8 ad cs M20 55 [(3, .int x5), (0, .ref b), (1, .ref (ad 0)), (2, .ref (ad 95))] [.int x19]
      refine v_if_ne (pc := 55) (tgt := 60) hX dL_law_55 (by decide) (fun h21 => ?_) (fun h21 => ?_)
      · have h := if_f h h21
        refine v_aload_n (pc := 60) 2 hX dL_law_60 rfl ?_
        refine v_iconst (pc := 61) hX dL_law_61 ic_2 ?_
        obtain ⟨x23, h22, h⟩ := b1_e h
        refine v_callV (pc := 62) [.int 2] (some (.int x23)) M20 hX cv_L_16 (c_X10_count (sub_cs hcs (Nat.le_of_ble_eq_true rfl) (Nat.le_of_ble_eq_true rfl)) M20 2 x23 h22) (hcs 0 (Nat.le_of_ble_eq_true rfl) (Nat.le_of_ble_eq_true rfl)) sh_0 rfl rfl rfl ⟨Nat.le_of_ble_eq_true rfl, Nat.le_of_ble_eq_true rfl⟩ (Nat.le_of_ble_eq_true rfl) dL_law_62 ?_
        show VV X 8 ad cs M20 65 [(3, .int x5), (0, .ref b), (1, .ref (ad 0)), (2, .ref (ad 95))] [.int x23]
        refine v_if_ne (pc := 65) (tgt := 109) hX dL_law_65 (by decide) (fun h24 => ?_) (fun h24 => ?_)
        · have h := if_f h h24
          refine v_aload_n (pc := 109) 2 hX dL_law_109 rfl ?_
          refine v_iconst (pc := 110) hX dL_law_110 ic_0 ?_
          refine v_iconst (pc := 111) hX dL_law_111 ic_0 ?_
          refine v_iconst (pc := 112) hX dL_law_112 ic_0 ?_
          refine v_iconst (pc := 113) hX dL_law_113 ic_1 ?_
          obtain ⟨y26, h25, h⟩ := b1_e h
          refine v_callV (pc := 114) [.int 0, .int 0, .int 0, .int 1] (some (.long y26)) M20 hX cv_L_69 (c_X10_value (sub_cs hcs (Nat.le_of_ble_eq_true rfl) (Nat.le_of_ble_eq_true rfl)) M20 0 0 0 1 y26 h25) (hcs 0 (Nat.le_of_ble_eq_true rfl) (Nat.le_of_ble_eq_true rfl)) sh_0 rfl rfl rfl ⟨Nat.le_of_ble_eq_true rfl, Nat.le_of_ble_eq_true rfl⟩ (Nat.le_of_ble_eq_true rfl) dL_law_114 ?_
          show VV X 8 ad cs M20 117 [(3, .int x5), (0, .ref b), (1, .ref (ad 0)), (2, .ref (ad 95))] [.long y26]
          refine v_ldc2 (pc := 117) hX kc_L_119 dL_law_117 ?_
          refine v_lcmp (pc := 120) hX dL_law_120 ?_
          refine v_if_lt (pc := 121) (tgt := 135) hX dL_law_121 (by decide) (fun h27 => ?_) (fun h27 => ?_)
          · have h := if_t h h27
            refine v_iconst (pc := 135) hX dL_law_135 ic_0 ?_
            exact v_fin (pc := 136) ((congrArg Prod.fst (Option.some.inj h)).trans hq) (fin _ _ _ dL_law_136)
          · have h := if_f h h27
            refine v_aload_n (pc := 124) 2 hX dL_law_124 rfl ?_
            refine v_bipush (pc := 125) hX dL_law_125 bp_7 ?_
            obtain ⟨x29, h28, h⟩ := b1_e h
            refine v_callV (pc := 127) [.int 7] (some (.int x29)) M20 hX cv_L_55 (c_X10_searchOf (sub_cs hcs (Nat.le_of_ble_eq_true rfl) (Nat.le_of_ble_eq_true rfl)) M20 7 x29 h28) (hcs 0 (Nat.le_of_ble_eq_true rfl) (Nat.le_of_ble_eq_true rfl)) sh_0 rfl rfl rfl ⟨Nat.le_of_ble_eq_true rfl, Nat.le_of_ble_eq_true rfl⟩ (Nat.le_of_ble_eq_true rfl) dL_law_127 ?_
            show VV X 8 ad cs M20 130 [(3, .int x5), (0, .ref b), (1, .ref (ad 0)), (2, .ref (ad 95))] [.int x29]
            refine v_ldc (pc := 130) hX kc_L_121 dL_law_130 ?_
            refine v_icmp_eq (pc := 132) (tgt := 137) hX dL_law_132 (by decide) (fun h30 => ?_) (fun h30 => ?_)
            · have h := if_t h h30
              refine v_iconst (pc := 137) hX dL_law_137 ic_0 ?_
              refine v_istore (pc := 138) [(4, .int 0), (3, .int x5), (0, .ref b), (1, .ref (ad 0)), (2, .ref (ad 95))] hX dL_law_138 (by decide) rfl ?_
              have L39 := v_itr (fL_law_L140) (fun z => VV X 8 ad cs z.2 140 [(0, .ref b), (1, .ref (ad 0)), (2, .ref (ad 95)), (4, .int z.1)] []) (Sum.elim (fun z => VV X 8 ad cs z 155 [] []) (fun z => VV X 8 ad cs z 163 [(0, .ref b), (1, .ref (ad 0))] [])) (by
                rintro ⟨x31, M32⟩ q h hK
                unfold fL_law_L140 at h
                have h := u2_b h
                show VV X 8 ad cs M32 140 [(0, .ref b), (1, .ref (ad 0)), (2, .ref (ad 95)), (4, .int x31)] []
                refine v_iload (pc := 140) 3 hX dL_law_140 rfl ?_
                refine v_bipush (pc := 142) hX dL_law_142 bp_10 ?_
                refine v_icmp_ge (pc := 144) (tgt := 163) hX dL_law_144 (by decide) (fun h33 => ?_) (fun h33 => ?_)
                · have h := if_t h h33
                  obtain rfl := Option.some.inj h
                  exact v_sub [0, 1] rfl hK
                · have h := if_f h h33
                  refine v_aload_n (pc := 147) 1 hX dL_law_147 rfl ?_
                  refine v_aload_n (pc := 148) 2 hX dL_law_148 rfl ?_
                  obtain ⟨x35, M36, h34, h⟩ := b2_e h
                  refine v_callS (pc := 149) [.ref (ad 0), .ref (ad 95)] (some (.int x35)) M36 hX cv_L_122 (c_L_poll (sub_cs hcs (Nat.le_of_ble_eq_true rfl) (Nat.le_of_ble_eq_true rfl)) M32 (x35, M36) h34) rfl rfl ⟨Nat.le_of_ble_eq_true rfl, Nat.le_of_ble_eq_true rfl⟩ (Nat.le_of_ble_eq_true rfl) dL_law_149 ?_
                  show VV X 8 ad cs M36 152 [(0, .ref b), (1, .ref (ad 0)), (2, .ref (ad 95)), (4, .int x31)] [.int x35]
                  refine v_if_ne (pc := 152) (tgt := 157) hX dL_law_152 (by decide) (fun h37 => ?_) (fun h37 => ?_)
                  · have h := if_f h h37
                    obtain ⟨x38, ex38, h⟩ := bd_e h
                    refine v_iinc (v := x38) (pc := 157) 3 [(4, .int x38), (0, .ref b), (1, .ref (ad 0)), (2, .ref (ad 95))] hX dL_law_157 rfl (ex38.trans (by rw [ic_1])) (by decide) rfl ?_
                    refine v_goto (pc := 160) (tgt := 140) hX dL_law_160 (by decide) ?_
                    obtain rfl := Option.some.inj h
                    exact v_sub [1, 2, 3, 0] rfl hK
                  · have h := if_t h h37
                    obtain rfl := Option.some.inj h
                    exact v_sub [] rfl hK
              )
              rcases bs_e h with ⟨M40, h96, h⟩ | ⟨M41, h96, h⟩
              · refine v_sub [2, 3, 4, 0] rfl ?_
                refine L39 1000 _ _ h96 ?_
                show VV X 8 ad cs M40 155 [] []
                refine v_iconst (pc := 155) hX dL_law_155 ic_0 ?_
                exact v_fin (pc := 156) ((congrArg Prod.fst (Option.some.inj h)).trans hq) (fin _ _ _ dL_law_156)
              · refine v_sub [2, 3, 4, 0] rfl ?_
                refine L39 1000 _ _ h96 ?_
                show VV X 8 ad cs M41 163 [(0, .ref b), (1, .ref (ad 0))] []
                refine v_aload_n (pc := 163) 1 hX dL_law_163 rfl ?_
                refine v_iconst (pc := 164) hX dL_law_164 ic_4 ?_
                obtain ⟨x43, h42, h⟩ := b1_e h
                refine v_callV (pc := 165) [.int 4] (some (.int x43)) M41 hX cv_L_55 (c_X10_searchOf (sub_cs hcs (Nat.le_of_ble_eq_true rfl) (Nat.le_of_ble_eq_true rfl)) M41 4 x43 h42) (hcs 0 (Nat.le_of_ble_eq_true rfl) (Nat.le_of_ble_eq_true rfl)) sh_0 rfl rfl rfl ⟨Nat.le_of_ble_eq_true rfl, Nat.le_of_ble_eq_true rfl⟩ (Nat.le_of_ble_eq_true rfl) dL_law_165 ?_
                show VV X 8 ad cs M41 168 [(0, .ref b), (1, .ref (ad 0))] [.int x43]
                refine v_istore (pc := 168) [(4, .int x43), (0, .ref b), (1, .ref (ad 0))] hX dL_law_168 (by decide) rfl ?_
                refine v_iconst (pc := 170) hX dL_law_170 ic_1 ?_
                refine v_aload_n (pc := 171) 1 hX dL_law_171 rfl ?_
                refine v_bipush (pc := 172) hX dL_law_172 bp_22 ?_
                obtain ⟨x45, h44, h⟩ := b1_e h
                refine v_callSs (pc := 174) [.ref b, .int 22] (some (.int x45)) M41 hX hZ cv_L_23 (c_L_cell b L xs M41 22 x45 h44) rfl rfl ⟨Nat.le_of_ble_eq_true rfl, Nat.le_of_ble_eq_true rfl⟩ (Nat.le_of_ble_eq_true rfl) dL_law_174 ?_
                show VV X 8 ad cs M41 177 [(4, .int x43), (0, .ref b), (1, .ref (ad 0))] [.int x45, .int 1]
                refine v_bipush (pc := 177) hX dL_law_177 bp_60 ?_
                obtain ⟨x47, h46, h⟩ := b1_e h
                refine v_callS (pc := 179) [.int x45, .int 60] (some (.int x47)) M41 hX cv_L_29 (c_L_low M41 x45 60 x47 h46) rfl rfl ⟨Nat.le_of_ble_eq_true rfl, Nat.le_of_ble_eq_true rfl⟩ (Nat.le_of_ble_eq_true rfl) dL_law_179 ?_
                show VV X 8 ad cs M41 182 [(4, .int x43), (0, .ref b), (1, .ref (ad 0))] [.int x47, .int 1]
                refine v_iadd (pc := 182) hX dL_law_182 ?_
                obtain ⟨x48, ex48, h⟩ := bd_e h
                refine v_top ex48 ?_
                refine v_istore (pc := 183) [(5, .int x48), (4, .int x43), (0, .ref b), (1, .ref (ad 0))] hX dL_law_183 (by decide) rfl ?_
                refine v_aload_n (pc := 185) 3 hX dL_law_185 rfl ?_
                refine v_iload (pc := 186) 0 hX dL_law_186 rfl ?_
                obtain ⟨x50, M51, h49, h⟩ := b2_e h
                refine v_callV (pc := 188) [.int x48] (some (.int x50)) M51 hX cv_L_116 (c_X10_run (sub_cs hcs (Nat.le_of_ble_eq_true rfl) (Nat.le_of_ble_eq_true rfl)) M41 x48 (x50, M51) h49) (hcs 0 (Nat.le_of_ble_eq_true rfl) (Nat.le_of_ble_eq_true rfl)) sh_0 rfl rfl rfl ⟨Nat.le_of_ble_eq_true rfl, Nat.le_of_ble_eq_true rfl⟩ (Nat.le_of_ble_eq_true rfl) dL_law_188 ?_
                show VV X 8 ad cs M51 191 [(5, .int x48), (4, .int x43), (0, .ref b), (1, .ref (ad 0))] [.int x50]
                refine v_istore (pc := 191) [(6, .int x50), (5, .int x48), (4, .int x43), (0, .ref b), (1, .ref (ad 0))] hX dL_law_191 (by decide) rfl ?_
                refine v_iload (pc := 193) 0 hX dL_law_193 rfl ?_
                refine v_iconst (pc := 195) hX dL_law_195 ic_1 ?_
                refine v_icmp_lt (pc := 196) (tgt := 236) hX dL_law_196 (by decide) (fun h52 => ?_) (fun h52 => ?_)
                · have h := if_t h h52
                  refine v_iconst (pc := 236) hX dL_law_236 ic_0 ?_
                  exact v_fin (pc := 237) ((congrArg Prod.fst (Option.some.inj h)).trans hq) (fin _ _ _ dL_law_237)
                · have h := if_f h h52
                  refine v_iload (pc := 199) 0 hX dL_law_199 rfl ?_
                  refine v_iload (pc := 201) 1 hX dL_law_201 rfl ?_
                  refine v_icmp_gt (pc := 203) (tgt := 236) hX dL_law_203 (by decide) (fun h53 => ?_) (fun h53 => ?_)
                  · have h := if_t h h53
                    refine v_iconst (pc := 236) hX dL_law_236 ic_0 ?_
                    exact v_fin (pc := 237) ((congrArg Prod.fst (Option.some.inj h)).trans hq) (fin _ _ _ dL_law_237)
                  · have h := if_f h h53
                    refine v_aload_n (pc := 206) 4 hX dL_law_206 rfl ?_
                    refine v_iconst (pc := 207) hX dL_law_207 ic_4 ?_
                    obtain ⟨x55, h54, h⟩ := b1_e h
                    refine v_callV (pc := 208) [.int 4] (some (.int x55)) M51 hX cv_L_55 (c_X10_searchOf (sub_cs hcs (Nat.le_of_ble_eq_true rfl) (Nat.le_of_ble_eq_true rfl)) M51 4 x55 h54) (hcs 0 (Nat.le_of_ble_eq_true rfl) (Nat.le_of_ble_eq_true rfl)) sh_0 rfl rfl rfl ⟨Nat.le_of_ble_eq_true rfl, Nat.le_of_ble_eq_true rfl⟩ (Nat.le_of_ble_eq_true rfl) dL_law_208 ?_
                    show VV X 8 ad cs M51 211 [(6, .int x50), (5, .int x48), (4, .int x43), (0, .ref b), (1, .ref (ad 0))] [.int x55]
                    refine v_iload (pc := 211) 2 hX dL_law_211 rfl ?_
                    refine v_iload (pc := 213) 0 hX dL_law_213 rfl ?_
                    refine v_iadd (pc := 215) hX dL_law_215 ?_
                    refine v_icmp_ne (pc := 216) (tgt := 236) hX dL_law_216 (by decide) (fun h56 => ?_) (fun h56 => ?_)
                    · have h := if_f h h56
                      refine v_iconst (pc := 236) hX dL_law_236 ic_0 ?_
                      exact v_fin (pc := 237) ((congrArg Prod.fst (Option.some.inj h)).trans hq) (fin _ _ _ dL_law_237)
                    · have h := if_t h h56
                      refine v_iload (pc := 219) 0 hX dL_law_219 rfl ?_
                      refine v_iload (pc := 221) 1 hX dL_law_221 rfl ?_
                      obtain ⟨k57, ek57, h⟩ := bd_e h
                      have K58 : ∀ (_ : Unit), k57 () = some q → VV X 8 ad cs M51 238 [(0, .ref b), (1, .ref (ad 0))] [] := by
                        intro _ h
                        subst ek57
                        refine v_aload_n (pc := 238) 1 hX dL_law_238 rfl ?_
                        refine v_bipush (pc := 239) hX dL_law_239 bp_9 ?_
                        obtain ⟨x60, h59, h⟩ := b1_e h
                        refine v_callV (pc := 241) [.int 9] (some (.int x60)) M51 hX cv_L_55 (c_X10_searchOf (sub_cs hcs (Nat.le_of_ble_eq_true rfl) (Nat.le_of_ble_eq_true rfl)) M51 9 x60 h59) (hcs 0 (Nat.le_of_ble_eq_true rfl) (Nat.le_of_ble_eq_true rfl)) sh_0 rfl rfl rfl ⟨Nat.le_of_ble_eq_true rfl, Nat.le_of_ble_eq_true rfl⟩ (Nat.le_of_ble_eq_true rfl) dL_law_241 ?_
                        show VV X 8 ad cs M51 244 [(0, .ref b), (1, .ref (ad 0))] [.int x60]
                        obtain ⟨k61, ek61, h⟩ := bd_e h
                        have K62 : ∀ (M63 : Mm) (x64 : Int32), k61 M63 x64 = some q → VV X 8 ad cs M63 280 [(0, .ref b), (1, .ref (ad 0))] [.int x64] := by
                          intro M63 x64 h
                          subst ek61
                          refine v_istore (pc := 280) [(7, .int x64), (0, .ref b), (1, .ref (ad 0))] hX dL_law_280 (by decide) rfl ?_
                          refine v_iload (pc := 282) 0 hX dL_law_282 rfl ?_
                          refine v_if_eq (pc := 284) (tgt := 308) hX dL_law_284 (by decide) (fun h65 => ?_) (fun h65 => ?_)
                          · have h := if_t h h65
                            refine v_iconst (pc := 308) hX dL_law_308 ic_0 ?_
                            exact v_fin (pc := 309) ((congrArg Prod.fst (Option.some.inj h)).trans hq) (fin _ _ _ dL_law_309)
                          · have h := if_f h h65
                            refine v_aload_n (pc := 287) 2 hX dL_law_287 rfl ?_
                            refine v_aload_n (pc := 288) 1 hX dL_law_288 rfl ?_
                            refine v_bipush (pc := 289) hX dL_law_289 bp_23 ?_
                            obtain ⟨x67, h66, h⟩ := b1_e h
                            refine v_callSs (pc := 291) [.ref b, .int 23] (some (.int x67)) M63 hX hZ cv_L_23 (c_L_cell b L xs M63 23 x67 h66) rfl rfl ⟨Nat.le_of_ble_eq_true rfl, Nat.le_of_ble_eq_true rfl⟩ (Nat.le_of_ble_eq_true rfl) dL_law_291 ?_
                            show VV X 8 ad cs M63 294 [(7, .int x64), (0, .ref b), (1, .ref (ad 0))] [.int x67, .ref (ad 0)]
                            refine v_iconst (pc := 294) hX dL_law_294 ic_3 ?_
                            obtain ⟨x69, h68, h⟩ := b1_e h
                            refine v_callS (pc := 295) [.int x67, .int 3] (some (.int x69)) M63 hX cv_L_29 (c_L_low M63 x67 3 x69 h68) rfl rfl ⟨Nat.le_of_ble_eq_true rfl, Nat.le_of_ble_eq_true rfl⟩ (Nat.le_of_ble_eq_true rfl) dL_law_295 ?_
                            show VV X 8 ad cs M63 298 [(7, .int x64), (0, .ref b), (1, .ref (ad 0))] [.int x69, .ref (ad 0)]
                            obtain ⟨x71, M72, h70, h⟩ := b2_e h
                            refine v_callS (pc := 298) [.ref (ad 0), .int x69] (some (.int x71)) M72 hX cv_L_114 (c_L_around (sub_cs hcs (Nat.le_of_ble_eq_true rfl) (Nat.le_of_ble_eq_true rfl)) M63 x69 (x71, M72) h70) rfl rfl ⟨Nat.le_of_ble_eq_true rfl, Nat.le_of_ble_eq_true rfl⟩ (Nat.le_of_ble_eq_true rfl) dL_law_298 ?_
                            show VV X 8 ad cs M72 301 [(7, .int x64), (0, .ref b), (1, .ref (ad 0))] [.int x71]
                            refine v_if_eq (pc := 301) (tgt := 308) hX dL_law_301 (by decide) (fun h73 => ?_) (fun h73 => ?_)
                            · have h := if_t h h73
                              refine v_iconst (pc := 308) hX dL_law_308 ic_0 ?_
                              exact v_fin (pc := 309) ((congrArg Prod.fst (Option.some.inj h)).trans hq) (fin _ _ _ dL_law_309)
                            · have h := if_f h h73
                              refine v_iconst (pc := 304) hX dL_law_304 ic_1 ?_
                              refine v_goto (pc := 305) (tgt := 309) hX dL_law_305 (by decide) ?_
                              exact v_fin (pc := 309) ((congrArg Prod.fst (Option.some.inj h)).trans hq) (fin _ _ _ dL_law_309)
                        obtain ⟨k74, ek74, h⟩ := bd_e h
                        have K75 : ∀ (M76 : Mm), k74 M76 = some q → VV X 8 ad cs M76 275 [(0, .ref b), (1, .ref (ad 0))] [] := by
                          intro M76 h
                          subst ek74
                          refine v_iconst (pc := 275) hX dL_law_275 ic_1 ?_
                          refine v_goto (pc := 276) (tgt := 280) hX dL_law_276 (by decide) ?_
                          exact v_sub [0, 1] rfl (K62 M76 1 h)
                        refine v_if_eq (pc := 244) (tgt := 275) hX dL_law_244 (by decide) (fun h77 => ?_) (fun h77 => ?_)
                        · have h := if_t h h77
                          exact v_sub [0, 1] rfl (K75 M51 h)
                        · have h := if_f h h77
                          refine v_aload_n (pc := 247) 1 hX dL_law_247 rfl ?_
                          refine v_iconst (pc := 248) hX dL_law_248 ic_3 ?_
                          obtain ⟨x79, h78, h⟩ := b1_e h
                          refine v_callV (pc := 249) [.int 3] (some (.int x79)) M51 hX cv_L_55 (c_X10_searchOf (sub_cs hcs (Nat.le_of_ble_eq_true rfl) (Nat.le_of_ble_eq_true rfl)) M51 3 x79 h78) (hcs 0 (Nat.le_of_ble_eq_true rfl) (Nat.le_of_ble_eq_true rfl)) sh_0 rfl rfl rfl ⟨Nat.le_of_ble_eq_true rfl, Nat.le_of_ble_eq_true rfl⟩ (Nat.le_of_ble_eq_true rfl) dL_law_249 ?_
                          show VV X 8 ad cs M51 252 [(0, .ref b), (1, .ref (ad 0))] [.int x79]
                          refine v_iconst (pc := 252) hX dL_law_252 ic_1 ?_
                          obtain ⟨k80, ek80, h⟩ := bd_e h
                          have K81 : ∀ (M82 : Mm), k80 M82 = some q → VV X 8 ad cs M82 279 [(0, .ref b), (1, .ref (ad 0))] [] := by
                            intro M82 h
                            subst ek80
                            refine v_iconst (pc := 279) hX dL_law_279 ic_0 ?_
                            exact v_sub [0, 1] rfl (K62 M82 0 h)
                          refine v_icmp_ne (pc := 253) (tgt := 279) hX dL_law_253 (by decide) (fun h83 => ?_) (fun h83 => ?_)
                          · have h := if_f h h83
                            exact v_sub [0, 1] rfl (K81 M51 h)
                          · have h := if_t h h83
                            refine v_aload_n (pc := 256) 1 hX dL_law_256 rfl ?_
                            refine v_iconst (pc := 257) hX dL_law_257 ic_0 ?_
                            obtain ⟨x85, M86, h84, h⟩ := b2_e h
                            refine v_callV (pc := 258) [.int 0] (some (.int x85)) M86 hX cv_L_92 (c_X10_stuck (sub_cs hcs (Nat.le_of_ble_eq_true rfl) (Nat.le_of_ble_eq_true rfl)) M51 0 (x85, M86) h84) (hcs 0 (Nat.le_of_ble_eq_true rfl) (Nat.le_of_ble_eq_true rfl)) sh_0 rfl rfl rfl ⟨Nat.le_of_ble_eq_true rfl, Nat.le_of_ble_eq_true rfl⟩ (Nat.le_of_ble_eq_true rfl) dL_law_258 ?_
                            show VV X 8 ad cs M86 261 [(0, .ref b), (1, .ref (ad 0))] [.int x85]
                            refine v_iconst (pc := 261) hX dL_law_261 ic_1 ?_
                            refine v_icmp_ne (pc := 262) (tgt := 279) hX dL_law_262 (by decide) (fun h87 => ?_) (fun h87 => ?_)
                            · have h := if_f h h87
                              exact v_sub [0, 1] rfl (K81 M86 h)
                            · have h := if_t h h87
                              refine v_aload_n (pc := 265) 1 hX dL_law_265 rfl ?_
                              refine v_bipush (pc := 266) hX dL_law_266 bp_7 ?_
                              obtain ⟨x89, M90, h88, h⟩ := b2_e h
                              refine v_callV (pc := 268) [.int 7] (some (.int x89)) M90 hX cv_L_116 (c_X10_run (sub_cs hcs (Nat.le_of_ble_eq_true rfl) (Nat.le_of_ble_eq_true rfl)) M86 7 (x89, M90) h88) (hcs 0 (Nat.le_of_ble_eq_true rfl) (Nat.le_of_ble_eq_true rfl)) sh_0 rfl rfl rfl ⟨Nat.le_of_ble_eq_true rfl, Nat.le_of_ble_eq_true rfl⟩ (Nat.le_of_ble_eq_true rfl) dL_law_268 ?_
                              show VV X 8 ad cs M90 271 [(0, .ref b), (1, .ref (ad 0))] [.int x89]
                              refine v_iconst (pc := 271) hX dL_law_271 ic_1 ?_
                              refine v_icmp_ne (pc := 272) (tgt := 279) hX dL_law_272 (by decide) (fun h91 => ?_) (fun h91 => ?_)
                              · have h := if_f h h91
                                exact v_sub [0, 1] rfl (K81 M90 h)
                              · have h := if_t h h91
                                exact v_sub [0, 1] rfl (K75 M90 h)
                      refine v_icmp_ge (pc := 223) (tgt := 238) hX dL_law_223 (by decide) (fun h92 => ?_) (fun h92 => ?_)
                      · have h := if_t h h92
                        exact v_sub [3, 4] rfl (K58 () h)
                      · have h := if_f h h92
                        refine v_aload_n (pc := 226) 4 hX dL_law_226 rfl ?_
                        refine v_bipush (pc := 227) hX dL_law_227 bp_9 ?_
                        obtain ⟨x94, h93, h⟩ := b1_e h
                        refine v_callV (pc := 229) [.int 9] (some (.int x94)) M51 hX cv_L_55 (c_X10_searchOf (sub_cs hcs (Nat.le_of_ble_eq_true rfl) (Nat.le_of_ble_eq_true rfl)) M51 9 x94 h93) (hcs 0 (Nat.le_of_ble_eq_true rfl) (Nat.le_of_ble_eq_true rfl)) sh_0 rfl rfl rfl ⟨Nat.le_of_ble_eq_true rfl, Nat.le_of_ble_eq_true rfl⟩ (Nat.le_of_ble_eq_true rfl) dL_law_229 ?_
                        show VV X 8 ad cs M51 232 [(6, .int x50), (5, .int x48), (4, .int x43), (0, .ref b), (1, .ref (ad 0))] [.int x94]
                        refine v_iconst (pc := 232) hX dL_law_232 ic_1 ?_
                        refine v_icmp_eq (pc := 233) (tgt := 238) hX dL_law_233 (by decide) (fun h95 => ?_) (fun h95 => ?_)
                        · have h := if_t h h95
                          exact v_sub [3, 4] rfl (K58 () h)
                        · have h := if_f h h95
                          refine v_iconst (pc := 236) hX dL_law_236 ic_0 ?_
                          exact v_fin (pc := 237) ((congrArg Prod.fst (Option.some.inj h)).trans hq) (fin _ _ _ dL_law_237)
            · have h := if_f h h30
              refine v_iconst (pc := 135) hX dL_law_135 ic_0 ?_
              exact v_fin (pc := 136) ((congrArg Prod.fst (Option.some.inj h)).trans hq) (fin _ _ _ dL_law_136)
        · have h := if_t h h24
          refine v_aload_n (pc := 68) 2 hX dL_law_68 rfl ?_
          obtain ⟨x98, M99, h97, h⟩ := b2_e h
          refine v_callV (pc := 69) [] (some (.int x98)) M99 hX cv_L_95 (c_X10_poll (sub_cs hcs (Nat.le_of_ble_eq_true rfl) (Nat.le_of_ble_eq_true rfl)) M20 (x98, M99) h97) (hcs 0 (Nat.le_of_ble_eq_true rfl) (Nat.le_of_ble_eq_true rfl)) sh_0 rfl rfl rfl ⟨Nat.le_of_ble_eq_true rfl, Nat.le_of_ble_eq_true rfl⟩ (Nat.le_of_ble_eq_true rfl) dL_law_69 ?_
          show VV X 8 ad cs M99 72 [(3, .int x5), (0, .ref b), (1, .ref (ad 0)), (2, .ref (ad 95))] [.int x98]
          refine v_ldc (pc := 72) hX kc_L_44 dL_law_72 ?_
          refine v_icmp_ne (pc := 74) (tgt := 107) hX dL_law_74 (by decide) (fun h100 => ?_) (fun h100 => ?_)
          · have h := if_f h h100
            refine v_iconst (pc := 107) hX dL_law_107 ic_0 ?_
            exact v_fin (pc := 108) ((congrArg Prod.fst (Option.some.inj h)).trans hq) (fin _ _ _ dL_law_108)
          · have h := if_t h h100
            refine v_aload_n (pc := 77) 2 hX dL_law_77 rfl ?_
            refine v_iconst (pc := 78) hX dL_law_78 ic_5 ?_
            obtain ⟨x102, M103, h101, h⟩ := b2_e h
            refine v_callV (pc := 79) [.int 5] (some (.int x102)) M103 hX cv_L_116 (c_X10_run (sub_cs hcs (Nat.le_of_ble_eq_true rfl) (Nat.le_of_ble_eq_true rfl)) M99 5 (x102, M103) h101) (hcs 0 (Nat.le_of_ble_eq_true rfl) (Nat.le_of_ble_eq_true rfl)) sh_0 rfl rfl rfl ⟨Nat.le_of_ble_eq_true rfl, Nat.le_of_ble_eq_true rfl⟩ (Nat.le_of_ble_eq_true rfl) dL_law_79 ?_
            show VV X 8 ad cs M103 82 [(3, .int x5), (0, .ref b), (1, .ref (ad 0)), (2, .ref (ad 95))] [.int x102]
            refine v_ldc (pc := 82) hX kc_L_44 dL_law_82 ?_
            refine v_icmp_ne (pc := 84) (tgt := 107) hX dL_law_84 (by decide) (fun h104 => ?_) (fun h104 => ?_)
            · have h := if_f h h104
              refine v_iconst (pc := 107) hX dL_law_107 ic_0 ?_
              exact v_fin (pc := 108) ((congrArg Prod.fst (Option.some.inj h)).trans hq) (fin _ _ _ dL_law_108)
            · have h := if_t h h104
              refine v_aload_n (pc := 87) 2 hX dL_law_87 rfl ?_
              refine v_iconst (pc := 88) hX dL_law_88 ic_0 ?_
              obtain ⟨x106, M107, h105, h⟩ := b2_e h
              refine v_callV (pc := 89) [.int 0] (some (.int x106)) M107 hX cv_L_92 (c_X10_stuck (sub_cs hcs (Nat.le_of_ble_eq_true rfl) (Nat.le_of_ble_eq_true rfl)) M103 0 (x106, M107) h105) (hcs 0 (Nat.le_of_ble_eq_true rfl) (Nat.le_of_ble_eq_true rfl)) sh_0 rfl rfl rfl ⟨Nat.le_of_ble_eq_true rfl, Nat.le_of_ble_eq_true rfl⟩ (Nat.le_of_ble_eq_true rfl) dL_law_89 ?_
              show VV X 8 ad cs M107 92 [(3, .int x5), (0, .ref b), (1, .ref (ad 0)), (2, .ref (ad 95))] [.int x106]
              refine v_iconst (pc := 92) hX dL_law_92 ic_1 ?_
              refine v_icmp_ne (pc := 93) (tgt := 107) hX dL_law_93 (by decide) (fun h108 => ?_) (fun h108 => ?_)
              · have h := if_f h h108
                refine v_iconst (pc := 107) hX dL_law_107 ic_0 ?_
                exact v_fin (pc := 108) ((congrArg Prod.fst (Option.some.inj h)).trans hq) (fin _ _ _ dL_law_108)
              · have h := if_t h h108
                refine v_aload_n (pc := 96) 2 hX dL_law_96 rfl ?_
                obtain ⟨x110, M111, h109, h⟩ := b2_e h
                refine v_callV (pc := 97) [] (some (.int x110)) M111 hX cv_L_19 (c_X10_spans (sub_cs hcs (Nat.le_of_ble_eq_true rfl) (Nat.le_of_ble_eq_true rfl)) M107 (x110, M111) h109) (hcs 0 (Nat.le_of_ble_eq_true rfl) (Nat.le_of_ble_eq_true rfl)) sh_0 rfl rfl rfl ⟨Nat.le_of_ble_eq_true rfl, Nat.le_of_ble_eq_true rfl⟩ (Nat.le_of_ble_eq_true rfl) dL_law_97 ?_
                show VV X 8 ad cs M111 100 [(3, .int x5), (0, .ref b), (1, .ref (ad 0)), (2, .ref (ad 95))] [.int x110]
                refine v_if_ne (pc := 100) (tgt := 107) hX dL_law_100 (by decide) (fun h112 => ?_) (fun h112 => ?_)
                · have h := if_f h h112
                  refine v_iconst (pc := 107) hX dL_law_107 ic_0 ?_
                  exact v_fin (pc := 108) ((congrArg Prod.fst (Option.some.inj h)).trans hq) (fin _ _ _ dL_law_108)
                · have h := if_t h h112
                  refine v_iconst (pc := 103) hX dL_law_103 ic_1 ?_
                  refine v_goto (pc := 104) (tgt := 108) hX dL_law_104 (by decide) ?_
                  exact v_fin (pc := 108) ((congrArg Prod.fst (Option.some.inj h)).trans hq) (fin _ _ _ dL_law_108)
      · have h := if_t h h21
        refine v_iconst (pc := 58) hX dL_law_58 ic_0 ?_
        exact v_fin (pc := 59) ((congrArg Prod.fst (Option.some.inj h)).trans hq) (fin _ _ _ dL_law_59)
