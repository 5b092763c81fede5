set_option maxHeartbeats 4000000 in
set_option maxRecDepth 100000 in
theorem c_L_trials {ad : Nat → Nat} {cs : List Nat} (hcs : ∀ k, 0 ≤ k → k < 96 → k ∈ cs) (M : Mm) (q : Int32 × Mm) (h : fL_trials M = some q) : CT ad cs yL_trials cL_trials 13 (some .int) 5 125 [.ref (ad 0), .ref (ad 95)] M (some (.int q.1)) q.2 := by
  refine CT.of RL (by decide +kernel) rfl (Nat.le_of_ble_eq_true rfl) (fun X hX hR => ?_)
  unfold fL_trials at h
  show VV X 13 ad cs M 0 [(0, .ref (ad 0)), (1, .ref (ad 95))] []
  refine v_iconst (pc := 0) hX dL_trials_0 ic_0 ?_
  refine v_istore_n (pc := 1) [(2, .int 0), (0, .ref (ad 0)), (1, .ref (ad 95))] hX dL_trials_1 (by decide) rfl ?_
  refine v_iconst (pc := 2) hX dL_trials_2 ic_m1 ?_
  refine v_istore_n (pc := 3) [(3, .int (-1)), (2, .int 0), (0, .ref (ad 0)), (1, .ref (ad 95))] hX dL_trials_3 (by decide) rfl ?_
  refine v_iconst (pc := 4) hX dL_trials_4 ic_0 ?_
  refine v_istore (pc := 5) [(4, .int 0), (3, .int (-1)), (2, .int 0), (0, .ref (ad 0)), (1, .ref (ad 95))] hX dL_trials_5 (by decide) rfl ?_
  refine v_aload_n (pc := 7) 3 hX dL_trials_7 rfl ?_
  obtain ⟨y2, h1, h⟩ := b1_e h
  refine v_callS (pc := 8) [.ref (ad 0)] (some (.long y2)) M hX cv_L_73 (c_L_here (sub_cs hcs (Nat.le_of_ble_eq_true rfl) (Nat.le_of_ble_eq_true rfl)) M y2 h1) rfl rfl ⟨Nat.le_of_ble_eq_true rfl, Nat.le_of_ble_eq_true rfl⟩ (Nat.le_of_ble_eq_true rfl) dL_trials_8 ?_
  show VV X 13 ad cs M 11 [(4, .int 0), (3, .int (-1)), (2, .int 0), (0, .ref (ad 0)), (1, .ref (ad 95))] [.long y2]
  refine v_lstore (pc := 11) [(5, .long y2), (4, .int 0), (3, .int (-1)), (2, .int 0), (0, .ref (ad 0)), (1, .ref (ad 95))] hX dL_trials_11 (by decide) rfl ?_
  refine v_iconst (pc := 13) hX dL_trials_13 ic_0 ?_
  refine v_istore (pc := 14) [(7, .int 0), (5, .long y2), (4, .int 0), (3, .int (-1)), (2, .int 0), (0, .ref (ad 0)), (1, .ref (ad 95))] hX dL_trials_14 (by decide) rfl ?_
  have L114 := v_itr (fL_trials_L16) (fun z => VV X 13 ad cs z.2.2.2.2.2 16 [(0, .ref (ad 0)), (1, .ref (ad 95)), (2, .int z.1), (3, .int z.2.1), (4, .int z.2.2.1), (5, .long z.2.2.2.1), (7, .int z.2.2.2.2.1)] []) (Sum.elim (fun z => VV X 13 ad cs z 94 [] []) (Sum.elim (fun z => VV X 13 ad cs z 248 [] []) (fun z => VV X 13 ad cs z.2.2.2 335 [(0, .ref (ad 0)), (3, .int z.1), (4, .int z.2.1), (7, .int z.2.2.1)] []))) (by
    rintro ⟨x3, x4, x5, y6, x7, M8⟩ q h hK
    unfold fL_trials_L16 at h
    have h := u6_b h
    show VV X 13 ad cs M8 16 [(0, .ref (ad 0)), (1, .ref (ad 95)), (2, .int x3), (3, .int x4), (4, .int x5), (5, .long y6), (7, .int x7)] []
    refine v_aload_n (pc := 16) 0 hX dL_trials_16 rfl ?_
    refine v_iload_n (pc := 17) 2 hX dL_trials_17 rfl ?_
    refine v_iconst (pc := 18) hX dL_trials_18 ic_0 ?_
    obtain ⟨x10, M11, h9, h⟩ := b2_e h
    refine v_callV (pc := 19) [.int x3, .int 0] (some (.int x10)) M11 hX cv_L_77 (c_X10_trialOf (sub_cs hcs (Nat.le_of_ble_eq_true rfl) (Nat.le_of_ble_eq_true rfl)) M8 x3 0 (x10, M11) h9) (hcs 0 (Nat.le_of_ble_eq_true rfl) (Nat.le_of_ble_eq_true rfl)) sh_0 rfl rfl rfl ⟨Nat.le_of_ble_eq_true rfl, Nat.le_of_ble_eq_true rfl⟩ (Nat.le_of_ble_eq_true rfl) dL_trials_19 ?_
    show VV X 13 ad cs M11 22 [(0, .ref (ad 0)), (1, .ref (ad 95)), (2, .int x3), (3, .int x4), (4, .int x5), (5, .long y6), (7, .int x7)] [.int x10]
    refine v_if_lt (pc := 22) (tgt := 335) hX dL_trials_22 (by decide) (fun h12 => ?_) (fun h12 => ?_)
    · have h := if_t h h12
      obtain rfl := Option.some.inj h
      exact v_sub [0, 3, 4, 6] rfl hK
    · have h := if_f h h12
      refine v_aload_n (pc := 25) 0 hX dL_trials_25 rfl ?_
      refine v_iload_n (pc := 26) 2 hX dL_trials_26 rfl ?_
      refine v_iconst (pc := 27) hX dL_trials_27 ic_0 ?_
      obtain ⟨x14, M15, h13, h⟩ := b2_e h
      refine v_callV (pc := 28) [.int x3, .int 0] (some (.int x14)) M15 hX cv_L_77 (c_X10_trialOf (sub_cs hcs (Nat.le_of_ble_eq_true rfl) (Nat.le_of_ble_eq_true rfl)) M11 x3 0 (x14, M15) h13) (hcs 0 (Nat.le_of_ble_eq_true rfl) (Nat.le_of_ble_eq_true rfl)) sh_0 rfl rfl rfl ⟨Nat.le_of_ble_eq_true rfl, Nat.le_of_ble_eq_true rfl⟩ (Nat.le_of_ble_eq_true rfl) dL_trials_28 ?_
      show VV X 13 ad cs M15 31 [(0, .ref (ad 0)), (1, .ref (ad 95)), (2, .int x3), (3, .int x4), (4, .int x5), (5, .long y6), (7, .int x7)] [.int x14]
      refine v_istore (pc := 31) [(8, .int x14), (0, .ref (ad 0)), (1, .ref (ad 95)), (2, .int x3), (3, .int x4), (4, .int x5), (5, .long y6), (7, .int x7)] hX dL_trials_31 (by decide) rfl ?_
      refine v_aload_n (pc := 33) 1 hX dL_trials_33 rfl ?_
      refine v_iload (pc := 34) 0 hX dL_trials_34 rfl ?_
      refine v_iconst (pc := 36) hX dL_trials_36 ic_0 ?_
      obtain ⟨y17, h16, h⟩ := b1_e h
      refine v_callS (pc := 37) [.ref (ad 0), .int x14, .int 0] (some (.long y17)) M15 hX cv_L_80 (c_L_there (sub_cs hcs (Nat.le_of_ble_eq_true rfl) (Nat.le_of_ble_eq_true rfl)) M15 x14 0 y17 h16) rfl rfl ⟨Nat.le_of_ble_eq_true rfl, Nat.le_of_ble_eq_true rfl⟩ (Nat.le_of_ble_eq_true rfl) dL_trials_37 ?_
      show VV X 13 ad cs M15 40 [(8, .int x14), (0, .ref (ad 0)), (1, .ref (ad 95)), (2, .int x3), (3, .int x4), (4, .int x5), (5, .long y6), (7, .int x7)] [.long y17]
      refine v_aload_n (pc := 40) 1 hX dL_trials_40 rfl ?_
      obtain ⟨y19, h18, h⟩ := b1_e h
      refine v_callS (pc := 41) [.ref (ad 0)] (some (.long y19)) M15 hX cv_L_73 (c_L_here (sub_cs hcs (Nat.le_of_ble_eq_true rfl) (Nat.le_of_ble_eq_true rfl)) M15 y19 h18) rfl rfl ⟨Nat.le_of_ble_eq_true rfl, Nat.le_of_ble_eq_true rfl⟩ (Nat.le_of_ble_eq_true rfl) dL_trials_41 ?_
      show VV X 13 ad cs M15 44 [(8, .int x14), (0, .ref (ad 0)), (1, .ref (ad 95)), (2, .int x3), (3, .int x4), (4, .int x5), (5, .long y6), (7, .int x7)] [.long y19, .long y17]
      refine v_lcmp (pc := 44) hX dL_trials_44 ?_
      obtain ⟨k20, ek20, h⟩ := bd_e h
      have K21 : ∀ (x22 : Int32), k20 x22 = some q → VV X 13 ad cs M15 53 [(0, .ref (ad 0)), (1, .ref (ad 95)), (2, .int x3), (3, .int x4), (4, .int x5), (5, .long y6), (7, .int x7), (8, .int x14)] [.int x22] := by
        intro x22 h
        subst ek20
        refine v_istore (pc := 53) [(9, .int x22), (0, .ref (ad 0)), (1, .ref (ad 95)), (2, .int x3), (3, .int x4), (4, .int x5), (5, .long y6), (7, .int x7), (8, .int x14)] hX dL_trials_53 (by decide) rfl ?_
        refine v_aload_n (pc := 55) 1 hX dL_trials_55 rfl ?_
        refine v_iload (pc := 56) 8 hX dL_trials_56 rfl ?_
        obtain ⟨x24, h23, h⟩ := b1_e h
        refine v_callS (pc := 58) [.ref (ad 0), .int x14] (some (.int x24)) M15 hX cv_L_84 (c_L_canTry (sub_cs hcs (Nat.le_of_ble_eq_true rfl) (Nat.le_of_ble_eq_true rfl)) M15 x14 x24 h23) rfl rfl ⟨Nat.le_of_ble_eq_true rfl, Nat.le_of_ble_eq_true rfl⟩ (Nat.le_of_ble_eq_true rfl) dL_trials_58 ?_
        show VV X 13 ad cs M15 61 [(9, .int x22), (0, .ref (ad 0)), (1, .ref (ad 95)), (2, .int x3), (3, .int x4), (4, .int x5), (5, .long y6), (7, .int x7), (8, .int x14)] [.int x24]
        refine v_if_eq (pc := 61) (tgt := 94) hX dL_trials_61 (by decide) (fun h25 => ?_) (fun h25 => ?_)
        · have h := if_t h h25
          obtain rfl := Option.some.inj h
          exact v_sub [] rfl hK
        · have h := if_f h h25
          refine v_iload (pc := 64) 7 hX dL_trials_64 rfl ?_
          refine v_iload (pc := 66) 8 hX dL_trials_66 rfl ?_
          refine v_ishr (pc := 68) hX dL_trials_68 ?_
          refine v_iconst (pc := 69) hX dL_trials_69 ic_1 ?_
          refine v_iand (pc := 70) hX dL_trials_70 ?_
          refine v_iconst (pc := 71) hX dL_trials_71 ic_1 ?_
          refine v_icmp_eq (pc := 72) (tgt := 94) hX dL_trials_72 (by decide) (fun h26 => ?_) (fun h26 => ?_)
          · have h := if_t h h26
            obtain rfl := Option.some.inj h
            exact v_sub [] rfl hK
          · have h := if_f h h26
            refine v_aload_n (pc := 75) 1 hX dL_trials_75 rfl ?_
            refine v_iload_n (pc := 76) 3 hX dL_trials_76 rfl ?_
            refine v_iconst (pc := 77) hX dL_trials_77 ic_1 ?_
            obtain ⟨x28, M29, h27, h⟩ := b2_e h
            refine v_callV (pc := 78) [.int x3, .int 1] (some (.int x28)) M29 hX cv_L_77 (c_X10_trialOf (sub_cs hcs (Nat.le_of_ble_eq_true rfl) (Nat.le_of_ble_eq_true rfl)) M15 x3 1 (x28, M29) h27) (hcs 0 (Nat.le_of_ble_eq_true rfl) (Nat.le_of_ble_eq_true rfl)) sh_0 rfl rfl rfl ⟨Nat.le_of_ble_eq_true rfl, Nat.le_of_ble_eq_true rfl⟩ (Nat.le_of_ble_eq_true rfl) dL_trials_78 ?_
            show VV X 13 ad cs M29 81 [(9, .int x22), (0, .ref (ad 0)), (1, .ref (ad 95)), (2, .int x3), (3, .int x4), (4, .int x5), (5, .long y6), (7, .int x7), (8, .int x14)] [.int x28]
            refine v_iload (pc := 81) 0 hX dL_trials_81 rfl ?_
            obtain ⟨k30, ek30, h⟩ := bd_e h
            have K31 : ∀ (x32 : Int32), k30 x32 = some q → VV X 13 ad cs M29 91 [(0, .ref (ad 0)), (1, .ref (ad 95)), (2, .int x3), (3, .int x4), (4, .int x5), (5, .long y6), (7, .int x7), (8, .int x14)] [.int x32, .int x28] := by
              intro x32 h
              subst ek30
              refine v_icmp_eq (pc := 91) (tgt := 96) hX dL_trials_91 (by decide) (fun h33 => ?_) (fun h33 => ?_)
              · have h := if_t h h33
                refine v_aload_n (pc := 96) 0 hX dL_trials_96 rfl ?_
                refine v_iconst (pc := 97) hX dL_trials_97 ic_3 ?_
                obtain ⟨x35, h34, h⟩ := b1_e h
                refine v_callV (pc := 98) [.int 3] (some (.int x35)) M29 hX cv_L_16 (c_X10_count (sub_cs hcs (Nat.le_of_ble_eq_true rfl) (Nat.le_of_ble_eq_true rfl)) M29 3 x35 h34) (hcs 0 (Nat.le_of_ble_eq_true rfl) (Nat.le_of_ble_eq_true rfl)) sh_0 rfl rfl rfl ⟨Nat.le_of_ble_eq_true rfl, Nat.le_of_ble_eq_true rfl⟩ (Nat.le_of_ble_eq_true rfl) dL_trials_98 ?_
                show VV X 13 ad cs M29 101 [(0, .ref (ad 0)), (1, .ref (ad 95)), (2, .int x3), (3, .int x4), (4, .int x5), (5, .long y6), (7, .int x7), (8, .int x14)] [.int x35]
                refine v_iconst (pc := 101) hX dL_trials_101 ic_1 ?_
                obtain ⟨k36, ek36, h⟩ := bd_e h
                have K37 : ∀ (x38 : Int32), k36 x38 = some q → VV X 13 ad cs M29 121 [(0, .ref (ad 0)), (1, .ref (ad 95)), (2, .int x3), (3, .int x4), (4, .int x5), (5, .long y6), (7, .int x7), (8, .int x14)] [.int x38] := by
                  intro x38 h
                  subst ek36
                  refine v_istore (pc := 121) [(10, .int x38), (0, .ref (ad 0)), (1, .ref (ad 95)), (2, .int x3), (3, .int x4), (4, .int x5), (5, .long y6), (7, .int x7), (8, .int x14)] hX dL_trials_121 (by decide) rfl ?_
                  refine v_iload_n (pc := 123) 3 hX dL_trials_123 rfl ?_
                  obtain ⟨k39, ek39, h⟩ := bd_e h
                  have K40 : ∀ (x41 : Int32), k39 x41 = some q → VV X 13 ad cs M29 232 [(0, .ref (ad 0)), (1, .ref (ad 95)), (2, .int x3), (3, .int x4), (4, .int x5), (5, .long y6), (7, .int x7), (8, .int x14), (10, .int x38)] [.int x41] := by
                    intro x41 h
                    subst ek39
                    refine v_istore (pc := 232) [(11, .int x41), (0, .ref (ad 0)), (1, .ref (ad 95)), (2, .int x3), (3, .int x4), (4, .int x5), (5, .long y6), (7, .int x7), (8, .int x14), (10, .int x38)] hX dL_trials_232 (by decide) rfl ?_
                    refine v_iload (pc := 234) 0 hX dL_trials_234 rfl ?_
                    refine v_if_eq (pc := 236) (tgt := 248) hX dL_trials_236 (by decide) (fun h42 => ?_) (fun h42 => ?_)
                    · have h := if_t h h42
                      obtain rfl := Option.some.inj h
                      exact v_sub [] rfl hK
                    · have h := if_f h h42
                      refine v_iload (pc := 239) 9 hX dL_trials_239 rfl ?_
                      obtain ⟨k43, ek43, h⟩ := bd_e h
                      have K44 : ∀ (_ : Unit), k43 () = some q → VV X 13 ad cs M29 250 [(0, .ref (ad 0)), (1, .ref (ad 95)), (2, .int x3), (3, .int x4), (4, .int x5), (5, .long y6), (7, .int x7), (8, .int x14)] [] := by
                        intro _ h
                        subst ek43
                        refine v_iload_n (pc := 250) 3 hX dL_trials_250 rfl ?_
                        obtain ⟨k45, ek45, h⟩ := bd_e h
                        have K46 : ∀ (x47 : Int32), k45 x47 = some q → VV X 13 ad cs M29 268 [(0, .ref (ad 0)), (1, .ref (ad 95)), (2, .int x3), (3, .int x4), (4, .int x5), (5, .long y6), (7, .int x7), (8, .int x14)] [.int x47] := by
                          intro x47 h
                          subst ek45
                          refine v_istore (pc := 268) [(12, .int x47), (0, .ref (ad 0)), (1, .ref (ad 95)), (2, .int x3), (3, .int x4), (4, .int x5), (5, .long y6), (7, .int x7), (8, .int x14)] hX dL_trials_268 (by decide) rfl ?_
                          refine v_iload (pc := 270) 5 hX dL_trials_270 rfl ?_
                          refine v_iload (pc := 272) 0 hX dL_trials_272 rfl ?_
                          obtain ⟨k48, ek48, h⟩ := bd_e h
                          have K49 : ∀ (x50 : Int32), k48 x50 = some q → VV X 13 ad cs M29 282 [(0, .ref (ad 0)), (1, .ref (ad 95)), (2, .int x3), (3, .int x4), (5, .long y6), (7, .int x7), (8, .int x14), (12, .int x47)] [.int x50, .int x5] := by
                            intro x50 h
                            subst ek48
                            refine v_iadd (pc := 282) hX dL_trials_282 ?_
                            obtain ⟨x51, ex51, h⟩ := bd_e h
                            refine v_top ex51 ?_
                            refine v_istore (pc := 283) [(4, .int x51), (0, .ref (ad 0)), (1, .ref (ad 95)), (2, .int x3), (3, .int x4), (5, .long y6), (7, .int x7), (8, .int x14), (12, .int x47)] hX dL_trials_283 (by decide) rfl ?_
                            refine v_iload (pc := 285) 8 hX dL_trials_285 rfl ?_
                            obtain ⟨k52, ek52, h⟩ := bd_e h
                            have K53 : ∀ (x54 : Int32) (y55 : Int64), k52 x54 y55 = some q → VV X 13 ad cs M29 315 [(0, .ref (ad 0)), (1, .ref (ad 95)), (2, .int x3), (3, .int x54), (4, .int x51), (5, .long y55), (7, .int x7), (8, .int x14)] [] := by
                              intro x54 y55 h
                              subst ek52
                              refine v_aload_n (pc := 315) 1 hX dL_trials_315 rfl ?_
                              refine v_iload_n (pc := 316) 2 hX dL_trials_316 rfl ?_
                              refine v_iload (pc := 317) 7 hX dL_trials_317 rfl ?_
                              obtain ⟨g56, h⟩ := gd_e h
                              obtain ⟨M57, eM57, h⟩ := bd_e h
                              refine v_iast (pc := 319) hX (hcs 95 (Nat.le_of_ble_eq_true rfl) (Nat.le_of_ble_eq_true rfl)) sh_95 g56 rfl dL_trials_319 eM57 ?_
                              refine v_iload (pc := 320) 6 hX dL_trials_320 rfl ?_
                              refine v_iconst (pc := 322) hX dL_trials_322 ic_1 ?_
                              refine v_iload (pc := 323) 7 hX dL_trials_323 rfl ?_
                              refine v_ishl (pc := 325) hX dL_trials_325 ?_
                              refine v_ior (pc := 326) hX dL_trials_326 ?_
                              obtain ⟨x58, ex58, h⟩ := bd_e h
                              refine v_top ex58 ?_
                              refine v_istore (pc := 327) [(7, .int x58), (0, .ref (ad 0)), (1, .ref (ad 95)), (2, .int x3), (3, .int x54), (4, .int x51), (5, .long y55), (8, .int x14)] hX dL_trials_327 (by decide) rfl ?_
                              obtain ⟨x59, ex59, h⟩ := bd_e h
                              refine v_iinc (v := x59) (pc := 329) 3 [(2, .int x59), (7, .int x58), (0, .ref (ad 0)), (1, .ref (ad 95)), (3, .int x54), (4, .int x51), (5, .long y55), (8, .int x14)] hX dL_trials_329 rfl (ex59.trans (by rw [ic_1])) (by decide) rfl ?_
                              refine v_goto (pc := 332) (tgt := 16) hX dL_trials_332 (by decide) ?_
                              obtain rfl := Option.some.inj h
                              exact v_sub [2, 3, 0, 4, 5, 6, 1] rfl hK
                            refine v_if_eq (pc := 287) (tgt := 315) hX dL_trials_287 (by decide) (fun h60 => ?_) (fun h60 => ?_)
                            · have h := if_t h h60
                              exact v_sub [1, 2, 3, 4, 0, 5, 6, 7] rfl (K53 x4 y6 h)
                            · have h := if_f h h60
                              refine v_aload_n (pc := 290) 1 hX dL_trials_290 rfl ?_
                              refine v_iload (pc := 291) 7 hX dL_trials_291 rfl ?_
                              refine v_iconst (pc := 293) hX dL_trials_293 ic_0 ?_
                              obtain ⟨y62, h61, h⟩ := b1_e h
                              refine v_callS (pc := 294) [.ref (ad 0), .int x14, .int 0] (some (.long y62)) M29 hX cv_L_80 (c_L_there (sub_cs hcs (Nat.le_of_ble_eq_true rfl) (Nat.le_of_ble_eq_true rfl)) M29 x14 0 y62 h61) rfl rfl ⟨Nat.le_of_ble_eq_true rfl, Nat.le_of_ble_eq_true rfl⟩ (Nat.le_of_ble_eq_true rfl) dL_trials_294 ?_
                              show VV X 13 ad cs M29 297 [(4, .int x51), (0, .ref (ad 0)), (1, .ref (ad 95)), (2, .int x3), (3, .int x4), (5, .long y6), (7, .int x7), (8, .int x14), (12, .int x47)] [.long y62]
                              refine v_lload (pc := 297) 5 hX dL_trials_297 rfl ?_
                              refine v_lcmp (pc := 299) hX dL_trials_299 ?_
                              refine v_if_ge (pc := 300) (tgt := 315) hX dL_trials_300 (by decide) (fun h63 => ?_) (fun h63 => ?_)
                              · have h := if_t h h63
                                exact v_sub [1, 2, 3, 4, 0, 5, 6, 7] rfl (K53 x4 y6 h)
                              · have h := if_f h h63
                                refine v_iload (pc := 303) 7 hX dL_trials_303 rfl ?_
                                refine v_istore_n (pc := 305) [(3, .int x14), (4, .int x51), (0, .ref (ad 0)), (1, .ref (ad 95)), (2, .int x3), (5, .long y6), (7, .int x7), (8, .int x14), (12, .int x47)] hX dL_trials_305 (by decide) rfl ?_
                                refine v_aload_n (pc := 306) 2 hX dL_trials_306 rfl ?_
                                refine v_iload (pc := 307) 7 hX dL_trials_307 rfl ?_
                                refine v_iconst (pc := 309) hX dL_trials_309 ic_0 ?_
                                obtain ⟨y65, h64, h⟩ := b1_e h
                                refine v_callS (pc := 310) [.ref (ad 0), .int x14, .int 0] (some (.long y65)) M29 hX cv_L_80 (c_L_there (sub_cs hcs (Nat.le_of_ble_eq_true rfl) (Nat.le_of_ble_eq_true rfl)) M29 x14 0 y65 h64) rfl rfl ⟨Nat.le_of_ble_eq_true rfl, Nat.le_of_ble_eq_true rfl⟩ (Nat.le_of_ble_eq_true rfl) dL_trials_310 ?_
                                show VV X 13 ad cs M29 313 [(3, .int x14), (4, .int x51), (0, .ref (ad 0)), (1, .ref (ad 95)), (2, .int x3), (5, .long y6), (7, .int x7), (8, .int x14), (12, .int x47)] [.long y65]
                                refine v_lstore (pc := 313) [(5, .long y65), (3, .int x14), (4, .int x51), (0, .ref (ad 0)), (1, .ref (ad 95)), (2, .int x3), (7, .int x7), (8, .int x14), (12, .int x47)] hX dL_trials_313 (by decide) rfl ?_
                                exact v_sub [3, 4, 5, 1, 2, 0, 6, 7] rfl (K53 x14 y65 h)
                          refine v_if_eq (pc := 274) (tgt := 281) hX dL_trials_274 (by decide) (fun h66 => ?_) (fun h66 => ?_)
                          · have h := if_t h h66
                            refine v_iconst (pc := 281) hX dL_trials_281 ic_0 ?_
                            exact v_sub [1, 2, 3, 4, 6, 7, 8, 0] rfl (K49 0 h)
                          · have h := if_f h h66
                            refine v_iconst (pc := 277) hX dL_trials_277 ic_1 ?_
                            refine v_goto (pc := 278) (tgt := 282) hX dL_trials_278 (by decide) ?_
                            exact v_sub [1, 2, 3, 4, 6, 7, 8, 0] rfl (K49 1 h)
                        obtain ⟨k67, ek67, h⟩ := bd_e h
                        have K68 : ∀ (_ : Unit), k67 () = some q → VV X 13 ad cs M29 263 [(0, .ref (ad 0)), (1, .ref (ad 95)), (2, .int x3), (3, .int x4), (4, .int x5), (5, .long y6), (7, .int x7), (8, .int x14)] [] := by
                          intro _ h
                          subst ek67
                          refine v_iconst (pc := 263) hX dL_trials_263 ic_1 ?_
                          refine v_goto (pc := 264) (tgt := 268) hX dL_trials_264 (by decide) ?_
                          exact v_sub [0, 1, 2, 3, 4, 5, 6, 7] rfl (K46 1 h)
                        refine v_if_lt (pc := 251) (tgt := 263) hX dL_trials_251 (by decide) (fun h69 => ?_) (fun h69 => ?_)
                        · have h := if_t h h69
                          exact v_sub [0, 1, 2, 3, 4, 5, 6, 7] rfl (K68 () h)
                        · have h := if_f h h69
                          refine v_aload_n (pc := 254) 0 hX dL_trials_254 rfl ?_
                          refine v_iconst (pc := 255) hX dL_trials_255 ic_4 ?_
                          obtain ⟨x71, h70, h⟩ := b1_e h
                          refine v_callV (pc := 256) [.int 4] (some (.int x71)) M29 hX cv_L_16 (c_X10_count (sub_cs hcs (Nat.le_of_ble_eq_true rfl) (Nat.le_of_ble_eq_true rfl)) M29 4 x71 h70) (hcs 0 (Nat.le_of_ble_eq_true rfl) (Nat.le_of_ble_eq_true rfl)) sh_0 rfl rfl rfl ⟨Nat.le_of_ble_eq_true rfl, Nat.le_of_ble_eq_true rfl⟩ (Nat.le_of_ble_eq_true rfl) dL_trials_256 ?_
                          show VV X 13 ad cs M29 259 [(0, .ref (ad 0)), (1, .ref (ad 95)), (2, .int x3), (3, .int x4), (4, .int x5), (5, .long y6), (7, .int x7), (8, .int x14)] [.int x71]
                          refine v_iconst (pc := 259) hX dL_trials_259 ic_1 ?_
                          refine v_icmp_ne (pc := 260) (tgt := 267) hX dL_trials_260 (by decide) (fun h72 => ?_) (fun h72 => ?_)
                          · have h := if_f h h72
                            refine v_iconst (pc := 267) hX dL_trials_267 ic_0 ?_
                            exact v_sub [0, 1, 2, 3, 4, 5, 6, 7] rfl (K46 0 h)
                          · have h := if_t h h72
                            exact v_sub [0, 1, 2, 3, 4, 5, 6, 7] rfl (K68 () h)
                      refine v_if_eq (pc := 241) (tgt := 250) hX dL_trials_241 (by decide) (fun h73 => ?_) (fun h73 => ?_)
                      · have h := if_t h h73
                        exact v_sub [1, 2, 3, 4, 5, 6, 7, 8] rfl (K44 () h)
                      · have h := if_f h h73
                        refine v_iload_n (pc := 244) 3 hX dL_trials_244 rfl ?_
                        refine v_if_le (pc := 245) (tgt := 250) hX dL_trials_245 (by decide) (fun h74 => ?_) (fun h74 => ?_)
                        · have h := if_t h h74
                          exact v_sub [1, 2, 3, 4, 5, 6, 7, 8] rfl (K44 () h)
                        · have h := if_f h h74
                          obtain rfl := Option.some.inj h
                          exact v_sub [] rfl hK
                  obtain ⟨k75, ek75, h⟩ := bd_e h
                  have K76 : ∀ (_ : Unit), k75 () = some q → VV X 13 ad cs M29 227 [(0, .ref (ad 0)), (1, .ref (ad 95)), (2, .int x3), (3, .int x4), (4, .int x5), (5, .long y6), (7, .int x7), (8, .int x14), (10, .int x38)] [] := by
                    intro _ h
                    subst ek75
                    refine v_iconst (pc := 227) hX dL_trials_227 ic_1 ?_
                    refine v_goto (pc := 228) (tgt := 232) hX dL_trials_228 (by decide) ?_
                    exact v_sub [0, 1, 2, 3, 4, 5, 6, 7, 8] rfl (K40 1 h)
                  refine v_if_eq (pc := 124) (tgt := 227) hX dL_trials_124 (by decide) (fun h77 => ?_) (fun h77 => ?_)
                  · have h := if_t h h77
                    exact v_sub [1, 2, 3, 4, 5, 6, 7, 8, 0] rfl (K76 () h)
                  · have h := if_f h h77
                    refine v_aload_n (pc := 127) 1 hX dL_trials_127 rfl ?_
                    refine v_iconst (pc := 128) hX dL_trials_128 ic_3 ?_
                    obtain ⟨x79, h78, h⟩ := b1_e h
                    refine v_callV (pc := 129) [.int 3] (some (.int x79)) M29 hX cv_L_16 (c_X10_count (sub_cs hcs (Nat.le_of_ble_eq_true rfl) (Nat.le_of_ble_eq_true rfl)) M29 3 x79 h78) (hcs 0 (Nat.le_of_ble_eq_true rfl) (Nat.le_of_ble_eq_true rfl)) sh_0 rfl rfl rfl ⟨Nat.le_of_ble_eq_true rfl, Nat.le_of_ble_eq_true rfl⟩ (Nat.le_of_ble_eq_true rfl) dL_trials_129 ?_
                    show VV X 13 ad cs M29 132 [(10, .int x38), (0, .ref (ad 0)), (1, .ref (ad 95)), (2, .int x3), (3, .int x4), (4, .int x5), (5, .long y6), (7, .int x7), (8, .int x14)] [.int x79]
                    refine v_iconst (pc := 132) hX dL_trials_132 ic_2 ?_
                    obtain ⟨k80, ek80, h⟩ := bd_e h
                    have K81 : ∀ (_ : Unit), k80 () = some q → VV X 13 ad cs M29 231 [(0, .ref (ad 0)), (1, .ref (ad 95)), (2, .int x3), (3, .int x4), (4, .int x5), (5, .long y6), (7, .int x7), (8, .int x14), (10, .int x38)] [] := by
                      intro _ h
                      subst ek80
                      refine v_iconst (pc := 231) hX dL_trials_231 ic_0 ?_
                      exact v_sub [0, 1, 2, 3, 4, 5, 6, 7, 8] rfl (K40 0 h)
                    refine v_icmp_ne (pc := 133) (tgt := 191) hX dL_trials_133 (by decide) (fun h82 => ?_) (fun h82 => ?_)
                    · have h := if_f h h82
                      refine v_iload_n (pc := 191) 3 hX dL_trials_191 rfl ?_
                      refine v_iconst (pc := 192) hX dL_trials_192 ic_1 ?_
                      obtain ⟨k83, ek83, h⟩ := bd_e h
                      have K84 : ∀ (_ : Unit), k83 () = some q → VV X 13 ad cs M29 217 [(0, .ref (ad 0)), (1, .ref (ad 95)), (2, .int x3), (3, .int x4), (4, .int x5), (5, .long y6), (7, .int x7), (8, .int x14), (10, .int x38)] [] := by
                        intro _ h
                        subst ek83
                        refine v_aload_n (pc := 217) 1 hX dL_trials_217 rfl ?_
                        refine v_iload_n (pc := 218) 2 hX dL_trials_218 rfl ?_
                        refine v_iconst (pc := 219) hX dL_trials_219 ic_1 ?_
                        refine v_isub (pc := 220) hX dL_trials_220 ?_
                        obtain ⟨g85, h⟩ := gd_e h
                        refine v_iald (pc := 221) hX (hcs 95 (Nat.le_of_ble_eq_true rfl) (Nat.le_of_ble_eq_true rfl)) sh_95 g85 rfl dL_trials_221 ?_
                        refine v_iload (pc := 222) 7 hX dL_trials_222 rfl ?_
                        refine v_icmp_ge (pc := 224) (tgt := 231) hX dL_trials_224 (by decide) (fun h86 => ?_) (fun h86 => ?_)
                        · have h := if_t h h86
                          exact v_sub [0, 1, 2, 3, 4, 5, 6, 7, 8] rfl (K81 () h)
                        · have h := if_f h h86
                          exact v_sub [0, 1, 2, 3, 4, 5, 6, 7, 8] rfl (K76 () h)
                      refine v_icmp_ne (pc := 193) (tgt := 217) hX dL_trials_193 (by decide) (fun h87 => ?_) (fun h87 => ?_)
                      · have h := if_f h h87
                        exact v_sub [1, 2, 3, 4, 5, 6, 7, 8, 0] rfl (K84 () h)
                      · have h := if_t h h87
                        refine v_aload_n (pc := 196) 1 hX dL_trials_196 rfl ?_
                        refine v_iconst (pc := 197) hX dL_trials_197 ic_3 ?_
                        obtain ⟨x89, h88, h⟩ := b1_e h
                        refine v_callV (pc := 198) [.int 3] (some (.int x89)) M29 hX cv_L_16 (c_X10_count (sub_cs hcs (Nat.le_of_ble_eq_true rfl) (Nat.le_of_ble_eq_true rfl)) M29 3 x89 h88) (hcs 0 (Nat.le_of_ble_eq_true rfl) (Nat.le_of_ble_eq_true rfl)) sh_0 rfl rfl rfl ⟨Nat.le_of_ble_eq_true rfl, Nat.le_of_ble_eq_true rfl⟩ (Nat.le_of_ble_eq_true rfl) dL_trials_198 ?_
                        show VV X 13 ad cs M29 201 [(10, .int x38), (0, .ref (ad 0)), (1, .ref (ad 95)), (2, .int x3), (3, .int x4), (4, .int x5), (5, .long y6), (7, .int x7), (8, .int x14)] [.int x89]
                        refine v_iconst (pc := 201) hX dL_trials_201 ic_1 ?_
                        refine v_icmp_ne (pc := 202) (tgt := 217) hX dL_trials_202 (by decide) (fun h90 => ?_) (fun h90 => ?_)
                        · have h := if_f h h90
                          exact v_sub [1, 2, 3, 4, 5, 6, 7, 8, 0] rfl (K84 () h)
                        · have h := if_t h h90
                          refine v_aload_n (pc := 205) 2 hX dL_trials_205 rfl ?_
                          refine v_iconst (pc := 206) hX dL_trials_206 ic_0 ?_
                          refine v_iald (pc := 207) hX (hcs 95 (Nat.le_of_ble_eq_true rfl) (Nat.le_of_ble_eq_true rfl)) sh_95 (ib_0 (by decide)) ix_0 dL_trials_207 ?_
                          refine v_aload_n (pc := 208) 1 hX dL_trials_208 rfl ?_
                          refine v_bipush (pc := 209) hX dL_trials_209 bp_7 ?_
                          obtain ⟨x92, h91, h⟩ := b1_e h
                          refine v_callV (pc := 211) [.int 7] (some (.int x92)) M29 hX cv_L_55 (c_X10_searchOf (sub_cs hcs (Nat.le_of_ble_eq_true rfl) (Nat.le_of_ble_eq_true rfl)) M29 7 x92 h91) (hcs 0 (Nat.le_of_ble_eq_true rfl) (Nat.le_of_ble_eq_true rfl)) sh_0 rfl rfl rfl ⟨Nat.le_of_ble_eq_true rfl, Nat.le_of_ble_eq_true rfl⟩ (Nat.le_of_ble_eq_true rfl) dL_trials_211 ?_
                          show VV X 13 ad cs M29 214 [(10, .int x38), (0, .ref (ad 0)), (1, .ref (ad 95)), (2, .int x3), (3, .int x4), (4, .int x5), (5, .long y6), (7, .int x7), (8, .int x14)] [.int x92, .int (M29.1 95 0)]
                          refine v_icmp_eq (pc := 214) (tgt := 227) hX dL_trials_214 (by decide) (fun h93 => ?_) (fun h93 => ?_)
                          · have h := if_t h h93
                            exact v_sub [1, 2, 3, 4, 5, 6, 7, 8, 0] rfl (K76 () h)
                          · have h := if_f h h93
                            exact v_sub [1, 2, 3, 4, 5, 6, 7, 8, 0] rfl (K84 () h)
                    · have h := if_t h h82
                      refine v_aload_n (pc := 136) 1 hX dL_trials_136 rfl ?_
                      refine v_aload_n (pc := 137) 2 hX dL_trials_137 rfl ?_
                      refine v_iload_n (pc := 138) 3 hX dL_trials_138 rfl ?_
                      refine v_iconst (pc := 139) hX dL_trials_139 ic_1 ?_
                      refine v_isub (pc := 140) hX dL_trials_140 ?_
                      obtain ⟨g94, h⟩ := gd_e h
                      refine v_iald (pc := 141) hX (hcs 95 (Nat.le_of_ble_eq_true rfl) (Nat.le_of_ble_eq_true rfl)) sh_95 g94 rfl dL_trials_141 ?_
                      refine v_iconst (pc := 142) hX dL_trials_142 ic_1 ?_
                      obtain ⟨y96, h95, h⟩ := b1_e h
                      refine v_callS (pc := 143) [.ref (ad 0), .int (M29.1 95 (ix (x3 - 1))), .int 1] (some (.long y96)) M29 hX cv_L_80 (c_L_there (sub_cs hcs (Nat.le_of_ble_eq_true rfl) (Nat.le_of_ble_eq_true rfl)) M29 (M29.1 95 (ix (x3 - 1))) 1 y96 h95) rfl rfl ⟨Nat.le_of_ble_eq_true rfl, Nat.le_of_ble_eq_true rfl⟩ (Nat.le_of_ble_eq_true rfl) dL_trials_143 ?_
                      show VV X 13 ad cs M29 146 [(10, .int x38), (0, .ref (ad 0)), (1, .ref (ad 95)), (2, .int x3), (3, .int x4), (4, .int x5), (5, .long y6), (7, .int x7), (8, .int x14)] [.long y96]
                      refine v_aload_n (pc := 146) 1 hX dL_trials_146 rfl ?_
                      refine v_iload (pc := 147) 8 hX dL_trials_147 rfl ?_
                      refine v_iconst (pc := 149) hX dL_trials_149 ic_1 ?_
                      obtain ⟨y98, h97, h⟩ := b1_e h
                      refine v_callS (pc := 150) [.ref (ad 0), .int x14, .int 1] (some (.long y98)) M29 hX cv_L_80 (c_L_there (sub_cs hcs (Nat.le_of_ble_eq_true rfl) (Nat.le_of_ble_eq_true rfl)) M29 x14 1 y98 h97) rfl rfl ⟨Nat.le_of_ble_eq_true rfl, Nat.le_of_ble_eq_true rfl⟩ (Nat.le_of_ble_eq_true rfl) dL_trials_150 ?_
                      show VV X 13 ad cs M29 153 [(10, .int x38), (0, .ref (ad 0)), (1, .ref (ad 95)), (2, .int x3), (3, .int x4), (4, .int x5), (5, .long y6), (7, .int x7), (8, .int x14)] [.long y98, .long y96]
                      refine v_lcmp (pc := 153) hX dL_trials_153 ?_
                      refine v_if_lt (pc := 154) (tgt := 227) hX dL_trials_154 (by decide) (fun h99 => ?_) (fun h99 => ?_)
                      · have h := if_t h h99
                        exact v_sub [1, 2, 3, 4, 5, 6, 7, 8, 0] rfl (K76 () h)
                      · have h := if_f h h99
                        refine v_aload_n (pc := 157) 1 hX dL_trials_157 rfl ?_
                        refine v_aload_n (pc := 158) 2 hX dL_trials_158 rfl ?_
                        refine v_iload_n (pc := 159) 3 hX dL_trials_159 rfl ?_
                        refine v_iconst (pc := 160) hX dL_trials_160 ic_1 ?_
                        refine v_isub (pc := 161) hX dL_trials_161 ?_
                        refine v_iald (pc := 162) hX (hcs 95 (Nat.le_of_ble_eq_true rfl) (Nat.le_of_ble_eq_true rfl)) sh_95 g94 rfl dL_trials_162 ?_
                        refine v_iconst (pc := 163) hX dL_trials_163 ic_1 ?_
                        obtain ⟨y101, h100, h⟩ := b1_e h
                        refine v_callS (pc := 164) [.ref (ad 0), .int (M29.1 95 (ix (x3 - 1))), .int 1] (some (.long y101)) M29 hX cv_L_80 (c_L_there (sub_cs hcs (Nat.le_of_ble_eq_true rfl) (Nat.le_of_ble_eq_true rfl)) M29 (M29.1 95 (ix (x3 - 1))) 1 y101 h100) rfl rfl ⟨Nat.le_of_ble_eq_true rfl, Nat.le_of_ble_eq_true rfl⟩ (Nat.le_of_ble_eq_true rfl) dL_trials_164 ?_
                        show VV X 13 ad cs M29 167 [(10, .int x38), (0, .ref (ad 0)), (1, .ref (ad 95)), (2, .int x3), (3, .int x4), (4, .int x5), (5, .long y6), (7, .int x7), (8, .int x14)] [.long y101]
                        refine v_aload_n (pc := 167) 1 hX dL_trials_167 rfl ?_
                        refine v_iload (pc := 168) 8 hX dL_trials_168 rfl ?_
                        refine v_iconst (pc := 170) hX dL_trials_170 ic_1 ?_
                        obtain ⟨y103, h102, h⟩ := b1_e h
                        refine v_callS (pc := 171) [.ref (ad 0), .int x14, .int 1] (some (.long y103)) M29 hX cv_L_80 (c_L_there (sub_cs hcs (Nat.le_of_ble_eq_true rfl) (Nat.le_of_ble_eq_true rfl)) M29 x14 1 y103 h102) rfl rfl ⟨Nat.le_of_ble_eq_true rfl, Nat.le_of_ble_eq_true rfl⟩ (Nat.le_of_ble_eq_true rfl) dL_trials_171 ?_
                        show VV X 13 ad cs M29 174 [(10, .int x38), (0, .ref (ad 0)), (1, .ref (ad 95)), (2, .int x3), (3, .int x4), (4, .int x5), (5, .long y6), (7, .int x7), (8, .int x14)] [.long y103, .long y101]
                        refine v_lcmp (pc := 174) hX dL_trials_174 ?_
                        refine v_if_ne (pc := 175) (tgt := 231) hX dL_trials_175 (by decide) (fun h104 => ?_) (fun h104 => ?_)
                        · have h := if_f h h104
                          exact v_sub [1, 2, 3, 4, 5, 6, 7, 8, 0] rfl (K81 () h)
                        · have h := if_t h h104
                          refine v_aload_n (pc := 178) 2 hX dL_trials_178 rfl ?_
                          refine v_iload_n (pc := 179) 3 hX dL_trials_179 rfl ?_
                          refine v_iconst (pc := 180) hX dL_trials_180 ic_1 ?_
                          refine v_isub (pc := 181) hX dL_trials_181 ?_
                          refine v_iald (pc := 182) hX (hcs 95 (Nat.le_of_ble_eq_true rfl) (Nat.le_of_ble_eq_true rfl)) sh_95 g94 rfl dL_trials_182 ?_
                          refine v_iload (pc := 183) 8 hX dL_trials_183 rfl ?_
                          refine v_icmp_ge (pc := 185) (tgt := 231) hX dL_trials_185 (by decide) (fun h105 => ?_) (fun h105 => ?_)
                          · have h := if_t h h105
                            exact v_sub [1, 2, 3, 4, 5, 6, 7, 8, 0] rfl (K81 () h)
                          · have h := if_f h h105
                            refine v_goto (pc := 188) (tgt := 227) hX dL_trials_188 (by decide) ?_
                            exact v_sub [1, 2, 3, 4, 5, 6, 7, 8, 0] rfl (K76 () h)
                obtain ⟨k106, ek106, h⟩ := bd_e h
                have K107 : ∀ (_ : Unit), k106 () = some q → VV X 13 ad cs M29 120 [(0, .ref (ad 0)), (1, .ref (ad 95)), (2, .int x3), (3, .int x4), (4, .int x5), (5, .long y6), (7, .int x7), (8, .int x14)] [] := by
                  intro _ h
                  subst ek106
                  refine v_iconst (pc := 120) hX dL_trials_120 ic_0 ?_
                  exact v_sub [0, 1, 2, 3, 4, 5, 6, 7] rfl (K37 0 h)
                refine v_icmp_ne (pc := 102) (tgt := 120) hX dL_trials_102 (by decide) (fun h108 => ?_) (fun h108 => ?_)
                · have h := if_f h h108
                  exact v_sub [0, 1, 2, 3, 4, 5, 6, 7] rfl (K107 () h)
                · have h := if_t h h108
                  refine v_iload (pc := 105) 7 hX dL_trials_105 rfl ?_
                  refine v_aload_n (pc := 107) 0 hX dL_trials_107 rfl ?_
                  refine v_bipush (pc := 108) hX dL_trials_108 bp_7 ?_
                  obtain ⟨x110, h109, h⟩ := b1_e h
                  refine v_callV (pc := 110) [.int 7] (some (.int x110)) M29 hX cv_L_55 (c_X10_searchOf (sub_cs hcs (Nat.le_of_ble_eq_true rfl) (Nat.le_of_ble_eq_true rfl)) M29 7 x110 h109) (hcs 0 (Nat.le_of_ble_eq_true rfl) (Nat.le_of_ble_eq_true rfl)) sh_0 rfl rfl rfl ⟨Nat.le_of_ble_eq_true rfl, Nat.le_of_ble_eq_true rfl⟩ (Nat.le_of_ble_eq_true rfl) dL_trials_110 ?_
                  show VV X 13 ad cs M29 113 [(0, .ref (ad 0)), (1, .ref (ad 95)), (2, .int x3), (3, .int x4), (4, .int x5), (5, .long y6), (7, .int x7), (8, .int x14)] [.int x110, .int x14]
                  refine v_icmp_ne (pc := 113) (tgt := 120) hX dL_trials_113 (by decide) (fun h111 => ?_) (fun h111 => ?_)
                  · have h := if_f h h111
                    exact v_sub [0, 1, 2, 3, 4, 5, 6, 7] rfl (K107 () h)
                  · have h := if_t h h111
                    refine v_iconst (pc := 116) hX dL_trials_116 ic_1 ?_
                    refine v_goto (pc := 117) (tgt := 121) hX dL_trials_117 (by decide) ?_
                    exact v_sub [0, 1, 2, 3, 4, 5, 6, 7] rfl (K37 1 h)
              · have h := if_f h h33
                obtain rfl := Option.some.inj h
                exact v_sub [] rfl hK
            refine v_if_eq (pc := 83) (tgt := 90) hX dL_trials_83 (by decide) (fun h112 => ?_) (fun h112 => ?_)
            · have h := if_t h h112
              refine v_iconst (pc := 90) hX dL_trials_90 ic_0 ?_
              exact v_sub [1, 2, 3, 4, 5, 6, 7, 8] rfl (K31 0 h)
            · have h := if_f h h112
              refine v_iconst (pc := 86) hX dL_trials_86 ic_1 ?_
              refine v_goto (pc := 87) (tgt := 91) hX dL_trials_87 (by decide) ?_
              exact v_sub [1, 2, 3, 4, 5, 6, 7, 8] rfl (K31 1 h)
      refine v_if_ge (pc := 45) (tgt := 52) hX dL_trials_45 (by decide) (fun h113 => ?_) (fun h113 => ?_)
      · have h := if_t h h113
        refine v_iconst (pc := 52) hX dL_trials_52 ic_0 ?_
        exact v_sub [1, 2, 3, 4, 5, 6, 7, 0] rfl (K21 0 h)
      · have h := if_f h h113
        refine v_iconst (pc := 48) hX dL_trials_48 ic_1 ?_
        refine v_goto (pc := 49) (tgt := 53) hX dL_trials_49 (by decide) ?_
        exact v_sub [1, 2, 3, 4, 5, 6, 7, 0] rfl (K21 1 h)
  )
  rcases bs3_e h with ⟨M115, h135, h⟩ | ⟨M116, h135, h⟩ | ⟨⟨x117, x118, x119, M120⟩, h135, h⟩
  · refine v_sub [5, 6, 4, 3, 2, 1, 0] rfl ?_
    refine L114 1000 _ _ h135 ?_
    show VV X 13 ad cs M115 94 [] []
    refine v_iconst (pc := 94) hX dL_trials_94 ic_m1 ?_
    obtain rfl := Option.some.inj h
    exact v_iret (pc := 95) hX hR dL_trials_95
  · refine v_sub [5, 6, 4, 3, 2, 1, 0] rfl ?_
    refine L114 1000 _ _ h135 ?_
    show VV X 13 ad cs M116 248 [] []
    refine v_iconst (pc := 248) hX dL_trials_248 ic_m1 ?_
    obtain rfl := Option.some.inj h
    exact v_iret (pc := 249) hX hR dL_trials_249
  · refine v_sub [5, 6, 4, 3, 2, 1, 0] rfl ?_
    refine L114 1000 _ _ h135 ?_
    have h := u4_b h
    show VV X 13 ad cs M120 335 [(0, .ref (ad 0)), (3, .int x117), (4, .int x118), (7, .int x119)] []
    refine v_iconst (pc := 335) hX dL_trials_335 ic_0 ?_
    refine v_istore (pc := 336) [(8, .int 0), (0, .ref (ad 0)), (3, .int x117), (4, .int x118), (7, .int x119)] hX dL_trials_336 (by decide) rfl ?_
    have L133 := v_itr (fL_trials_L338 M120 x119) (fun z => VV X 13 ad cs M120 338 [(0, .ref (ad 0)), (3, .int x117), (4, .int x118), (7, .int x119), (8, .int z)] []) (Sum.elim (fun z => VV X 13 ad cs M120 373 [] []) (fun z => VV X 13 ad cs M120 381 [(3, .int x117), (4, .int x118)] [])) (by
      rintro x121 q h hK
      unfold fL_trials_L338 at h
      show VV X 13 ad cs M120 338 [(0, .ref (ad 0)), (3, .int x117), (4, .int x118), (7, .int x119), (8, .int x121)] []
      refine v_iload (pc := 338) 4 hX dL_trials_338 rfl ?_
      refine v_aload_n (pc := 340) 0 hX dL_trials_340 rfl ?_
      refine v_iconst (pc := 341) hX dL_trials_341 ic_2 ?_
      obtain ⟨x123, h122, h⟩ := b1_e h
      refine v_callV (pc := 342) [.int 2] (some (.int x123)) M120 hX cv_L_16 (c_X10_count (sub_cs hcs (Nat.le_of_ble_eq_true rfl) (Nat.le_of_ble_eq_true rfl)) M120 2 x123 h122) (hcs 0 (Nat.le_of_ble_eq_true rfl) (Nat.le_of_ble_eq_true rfl)) sh_0 rfl rfl rfl ⟨Nat.le_of_ble_eq_true rfl, Nat.le_of_ble_eq_true rfl⟩ (Nat.le_of_ble_eq_true rfl) dL_trials_342 ?_
      show VV X 13 ad cs M120 345 [(0, .ref (ad 0)), (3, .int x117), (4, .int x118), (7, .int x119), (8, .int x121)] [.int x123, .int x121]
      refine v_icmp_ge (pc := 345) (tgt := 381) hX dL_trials_345 (by decide) (fun h124 => ?_) (fun h124 => ?_)
      · have h := if_t h h124
        obtain rfl := Option.some.inj h
        exact v_sub [1, 2] rfl hK
      · have h := if_f h h124
        refine v_aload_n (pc := 348) 0 hX dL_trials_348 rfl ?_
        refine v_iload (pc := 349) 4 hX dL_trials_349 rfl ?_
        obtain ⟨x126, h125, h⟩ := b1_e h
        refine v_callS (pc := 351) [.ref (ad 0), .int x121] (some (.int x126)) M120 hX cv_L_84 (c_L_canTry (sub_cs hcs (Nat.le_of_ble_eq_true rfl) (Nat.le_of_ble_eq_true rfl)) M120 x121 x126 h125) rfl rfl ⟨Nat.le_of_ble_eq_true rfl, Nat.le_of_ble_eq_true rfl⟩ (Nat.le_of_ble_eq_true rfl) dL_trials_351 ?_
        show VV X 13 ad cs M120 354 [(0, .ref (ad 0)), (3, .int x117), (4, .int x118), (7, .int x119), (8, .int x121)] [.int x126]
        refine v_iload (pc := 354) 3 hX dL_trials_354 rfl ?_
        refine v_iload (pc := 356) 4 hX dL_trials_356 rfl ?_
        refine v_ishr (pc := 358) hX dL_trials_358 ?_
        refine v_iconst (pc := 359) hX dL_trials_359 ic_1 ?_
        refine v_iand (pc := 360) hX dL_trials_360 ?_
        refine v_iconst (pc := 361) hX dL_trials_361 ic_1 ?_
        obtain ⟨k127, ek127, h⟩ := bd_e h
        have K128 : ∀ (x129 : Int32), k127 x129 = some q → VV X 13 ad cs M120 370 [(0, .ref (ad 0)), (3, .int x117), (4, .int x118), (7, .int x119), (8, .int x121)] [.int x129, .int x126] := by
          intro x129 h
          subst ek127
          refine v_icmp_eq (pc := 370) (tgt := 375) hX dL_trials_370 (by decide) (fun h130 => ?_) (fun h130 => ?_)
          · have h := if_t h h130
            obtain ⟨x131, ex131, h⟩ := bd_e h
            refine v_iinc (v := x131) (pc := 375) 4 [(8, .int x131), (0, .ref (ad 0)), (3, .int x117), (4, .int x118), (7, .int x119)] hX dL_trials_375 rfl (ex131.trans (by rw [ic_1])) (by decide) rfl ?_
            refine v_goto (pc := 378) (tgt := 338) hX dL_trials_378 (by decide) ?_
            obtain rfl := Option.some.inj h
            exact v_sub [1, 2, 3, 4, 0] rfl hK
          · have h := if_f h h130
            obtain rfl := Option.some.inj h
            exact v_sub [] rfl hK
        refine v_icmp_ne (pc := 362) (tgt := 369) hX dL_trials_362 (by decide) (fun h132 => ?_) (fun h132 => ?_)
        · have h := if_f h h132
          refine v_iconst (pc := 369) hX dL_trials_369 ic_0 ?_
          exact v_sub [0, 1, 2, 3, 4] rfl (K128 0 h)
        · have h := if_t h h132
          refine v_iconst (pc := 365) hX dL_trials_365 ic_1 ?_
          refine v_goto (pc := 366) (tgt := 370) hX dL_trials_366 (by decide) ?_
          exact v_sub [0, 1, 2, 3, 4] rfl (K128 1 h)
    )
    rcases bs_e h with ⟨_, h134, h⟩ | ⟨_, h134, h⟩
    · refine v_sub [1, 2, 3, 4, 0] rfl ?_
      refine L133 1000 _ _ h134 ?_
      show VV X 13 ad cs M120 373 [] []
      refine v_iconst (pc := 373) hX dL_trials_373 ic_m1 ?_
      obtain rfl := Option.some.inj h
      exact v_iret (pc := 374) hX hR dL_trials_374
    · refine v_sub [1, 2, 3, 4, 0] rfl ?_
      refine L133 1000 _ _ h134 ?_
      show VV X 13 ad cs M120 381 [(3, .int x117), (4, .int x118)] []
      refine v_bipush (pc := 381) hX dL_trials_381 bp_100 ?_
      refine v_iload (pc := 383) 1 hX dL_trials_383 rfl ?_
      refine v_imul (pc := 385) hX dL_trials_385 ?_
      refine v_iload_n (pc := 386) 0 hX dL_trials_386 rfl ?_
      refine v_iadd (pc := 387) hX dL_trials_387 ?_
      refine v_iconst (pc := 388) hX dL_trials_388 ic_1 ?_
      refine v_iadd (pc := 389) hX dL_trials_389 ?_
      obtain rfl := Option.some.inj h
      exact v_iret (pc := 390) hX hR dL_trials_390
