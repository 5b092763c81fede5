set_option maxHeartbeats 4000000 in
set_option maxRecDepth 100000 in
theorem c_X11_trialOf {ad : Nat → Nat} {cs : List Nat} (hcs : ∀ k, 95 ≤ k → k < 101 → k ∈ cs) (M : Mm) (w1 : Int32) (w2 : Int32) (q : Int32 × Mm) (h : fX11_trialOf M w1 w2 = some q) : CT ad cs yX11_trialOf cX11_trialOf 4 (some .int) 5 125 [.ref (ad 95), .int w1, .int w2] M (some (.int q.1)) q.2 := by
  refine CT.of RX11 (by decide +kernel) rfl (Nat.le_of_ble_eq_true rfl) (fun X hX hR => ?_)
  unfold fX11_trialOf at h
  show VV X 4 ad cs M 0 [(0, .ref (ad 95)), (1, .int w1), (2, .int w2)] []
  refine v_iload_n (pc := 0) 1 hX dX11_trialOf_0 rfl ?_
  refine v_if_lt (pc := 1) (tgt := 13) hX dX11_trialOf_1 (by decide) (fun h1 => ?_) (fun h1 => ?_)
  · have h := if_t h h1
    refine v_ldc (pc := 13) hX kc_11_70 dX11_trialOf_13 ?_
    obtain rfl := Option.some.inj h
    exact v_iret (pc := 15) hX hR dX11_trialOf_15
  · have h := if_f h h1
    refine v_iload_n (pc := 4) 2 hX dX11_trialOf_4 rfl ?_
    refine v_iconst (pc := 5) hX dX11_trialOf_5 ic_0 ?_
    refine v_iconst (pc := 6) hX dX11_trialOf_6 ic_1 ?_
    obtain ⟨x3, h2, h⟩ := b1_e h
    refine v_callS (pc := 7) [.int w2, .int 0, .int 1] (some (.int x3)) M hX cv_11_48 (c_X11_in M w2 0 1 x3 h2) rfl rfl ⟨Nat.le_of_ble_eq_true rfl, Nat.le_of_ble_eq_true rfl⟩ (Nat.le_of_ble_eq_true rfl) dX11_trialOf_7 ?_
    show VV X 4 ad cs M 10 [(0, .ref (ad 95)), (1, .int w1), (2, .int w2)] [.int x3]
    refine v_if_ne (pc := 10) (tgt := 16) hX dX11_trialOf_10 (by decide) (fun h4 => ?_) (fun h4 => ?_)
    · have h := if_f h h4
      refine v_aload_n (pc := 16) 0 hX dX11_trialOf_16 rfl ?_
      obtain ⟨M6, h5, h⟩ := b1_e h
      refine v_callV (pc := 17) [] none M6 hX cv_11_134 (c_X11_layRow (sub_cs hcs (Nat.le_of_ble_eq_true rfl) (Nat.le_of_ble_eq_true rfl)) M M6 h5) (hcs 95 (Nat.le_of_ble_eq_true rfl) (Nat.le_of_ble_eq_true rfl)) sh_95 rfl rfl rfl ⟨Nat.le_of_ble_eq_true rfl, Nat.le_of_ble_eq_true rfl⟩ (Nat.le_of_ble_eq_true rfl) dX11_trialOf_17 ?_
      show VV X 4 ad cs M6 20 [(0, .ref (ad 95)), (1, .int w1), (2, .int w2)] []
      refine v_iload_n (pc := 20) 1 hX dX11_trialOf_20 rfl ?_
      refine v_aload_n (pc := 21) 0 hX dX11_trialOf_21 rfl ?_
      refine v_getI (pc := 22) hX (hcs 95 (Nat.le_of_ble_eq_true rfl) (Nat.le_of_ble_eq_true rfl)) sh_95 fl_11_121 rfl dX11_trialOf_22 ?_
      refine v_icmp_lt (pc := 25) (tgt := 31) hX dX11_trialOf_25 (by decide) (fun h7 => ?_) (fun h7 => ?_)
      · have h := if_t h h7
        refine v_aload_n (pc := 31) 0 hX dX11_trialOf_31 rfl ?_
        refine v_aload_n (pc := 32) 0 hX dX11_trialOf_32 rfl ?_
        refine v_getR (pc := 33) (t := 100) hX (hcs 95 (Nat.le_of_ble_eq_true rfl) (Nat.le_of_ble_eq_true rfl)) sh_95 fl_11_23 rfl dX11_trialOf_33 ?_
        refine v_iload_n (pc := 36) 1 hX dX11_trialOf_36 rfl ?_
        obtain ⟨g8, h⟩ := gd_e h
        refine v_iald (pc := 37) hX (hcs 100 (Nat.le_of_ble_eq_true rfl) (Nat.le_of_ble_eq_true rfl)) sh_100 g8 rfl dX11_trialOf_37 ?_
        refine v_iconst (pc := 38) hX dX11_trialOf_38 ic_1 ?_
        refine v_aload_n (pc := 39) 0 hX dX11_trialOf_39 rfl ?_
        refine v_getR (pc := 40) (t := 96) hX (hcs 95 (Nat.le_of_ble_eq_true rfl) (Nat.le_of_ble_eq_true rfl)) sh_95 fl_11_7 rfl dX11_trialOf_40 ?_
        refine v_iconst (pc := 43) hX dX11_trialOf_43 ic_3 ?_
        refine v_iald (pc := 44) hX (hcs 96 (Nat.le_of_ble_eq_true rfl) (Nat.le_of_ble_eq_true rfl)) sh_96 (ib_3 (by decide)) ix_3 dX11_trialOf_44 ?_
        refine v_ishl (pc := 45) hX dX11_trialOf_45 ?_
        refine v_iconst (pc := 46) hX dX11_trialOf_46 ic_0 ?_
        obtain ⟨y10, h9, h⟩ := b1_e h
        refine v_callV (pc := 47) [.int (M6.1 100 (ix w1)), .int (1 <<< ((M6.1 96 3) &&& 31)), .int 0] (some (.long y10)) M6 hX cv_11_117 (c_X11_trialValue (sub_cs hcs (Nat.le_of_ble_eq_true rfl) (Nat.le_of_ble_eq_true rfl)) M6 (M6.1 100 (ix w1)) (1 <<< ((M6.1 96 3) &&& 31)) 0 y10 h9) (hcs 95 (Nat.le_of_ble_eq_true rfl) (Nat.le_of_ble_eq_true rfl)) sh_95 rfl rfl rfl ⟨Nat.le_of_ble_eq_true rfl, Nat.le_of_ble_eq_true rfl⟩ (Nat.le_of_ble_eq_true rfl) dX11_trialOf_47 ?_
        show VV X 4 ad cs M6 50 [(0, .ref (ad 95)), (1, .int w1), (2, .int w2)] [.long y10]
        refine v_aload_n (pc := 50) 0 hX dX11_trialOf_50 rfl ?_
        obtain ⟨y12, h11, h⟩ := b1_e h
        refine v_callV (pc := 51) [] (some (.long y12)) M6 hX cv_11_137 (c_X11_valueHere (sub_cs hcs (Nat.le_of_ble_eq_true rfl) (Nat.le_of_ble_eq_true rfl)) M6 y12 h11) (hcs 95 (Nat.le_of_ble_eq_true rfl) (Nat.le_of_ble_eq_true rfl)) sh_95 rfl rfl rfl ⟨Nat.le_of_ble_eq_true rfl, Nat.le_of_ble_eq_true rfl⟩ (Nat.le_of_ble_eq_true rfl) dX11_trialOf_51 ?_
        show VV X 4 ad cs M6 54 [(0, .ref (ad 95)), (1, .int w1), (2, .int w2)] [.long y12, .long y10]
        refine v_lcmp (pc := 54) hX dX11_trialOf_54 ?_
        obtain ⟨k13, ek13, h⟩ := bd_e h
        have K14 : ∀ (x15 : Int32), k13 x15 = some q → VV X 4 ad cs M6 63 [(0, .ref (ad 95)), (1, .int w1), (2, .int w2)] [.int x15] := by
          intro x15 h
          subst ek13
          refine v_istore_n (pc := 63) [(3, .int x15), (0, .ref (ad 95)), (1, .int w1), (2, .int w2)] hX dX11_trialOf_63 (by decide) rfl ?_
          refine v_iload_n (pc := 64) 3 hX dX11_trialOf_64 rfl ?_
          refine v_if_ne (pc := 65) (tgt := 77) hX dX11_trialOf_65 (by decide) (fun h16 => ?_) (fun h16 => ?_)
          · have h := if_f h h16
            refine v_iload_n (pc := 77) 0 hX dX11_trialOf_77 rfl ?_
            refine v_if_eq (pc := 78) (tgt := 85) hX dX11_trialOf_78 (by decide) (fun h17 => ?_) (fun h17 => ?_)
            · have h := if_t h h17
              refine v_iconst (pc := 85) hX dX11_trialOf_85 ic_0 ?_
              obtain rfl := Option.some.inj h
              exact v_iret (pc := 86) hX hR dX11_trialOf_86
            · have h := if_f h h17
              refine v_iconst (pc := 81) hX dX11_trialOf_81 ic_1 ?_
              refine v_goto (pc := 82) (tgt := 86) hX dX11_trialOf_82 (by decide) ?_
              obtain rfl := Option.some.inj h
              exact v_iret (pc := 86) hX hR dX11_trialOf_86
          · have h := if_t h h16
            refine v_aload_n (pc := 68) 1 hX dX11_trialOf_68 rfl ?_
            refine v_getR (pc := 69) (t := 100) hX (hcs 95 (Nat.le_of_ble_eq_true rfl) (Nat.le_of_ble_eq_true rfl)) sh_95 fl_11_23 rfl dX11_trialOf_69 ?_
            refine v_iload_n (pc := 72) 2 hX dX11_trialOf_72 rfl ?_
            refine v_iald (pc := 73) hX (hcs 100 (Nat.le_of_ble_eq_true rfl) (Nat.le_of_ble_eq_true rfl)) sh_100 g8 rfl dX11_trialOf_73 ?_
            refine v_goto (pc := 74) (tgt := 86) hX dX11_trialOf_74 (by decide) ?_
            obtain rfl := Option.some.inj h
            exact v_iret (pc := 86) hX hR dX11_trialOf_86
        refine v_if_ge (pc := 55) (tgt := 62) hX dX11_trialOf_55 (by decide) (fun h18 => ?_) (fun h18 => ?_)
        · have h := if_t h h18
          refine v_iconst (pc := 62) hX dX11_trialOf_62 ic_0 ?_
          exact v_sub [0, 1, 2] rfl (K14 0 h)
        · have h := if_f h h18
          refine v_iconst (pc := 58) hX dX11_trialOf_58 ic_1 ?_
          refine v_goto (pc := 59) (tgt := 63) hX dX11_trialOf_59 (by decide) ?_
          exact v_sub [0, 1, 2] rfl (K14 1 h)
      · have h := if_f h h7
        refine v_ldc (pc := 28) hX kc_11_151 dX11_trialOf_28 ?_
        obtain rfl := Option.some.inj h
        exact v_iret (pc := 30) hX hR dX11_trialOf_30
    · have h := if_t h h4
      refine v_ldc (pc := 13) hX kc_11_70 dX11_trialOf_13 ?_
      obtain rfl := Option.some.inj h
      exact v_iret (pc := 15) hX hR dX11_trialOf_15
set_option maxHeartbeats 4000000 in
set_option maxRecDepth 100000 in
theorem c_X11_isBarred {ad : Nat → Nat} {cs : List Nat} (hcs : ∀ k, 95 ≤ k → k < 97 → k ∈ cs) (M : Mm) (w1 : Int32) (w2 : Int32) (w3 : Int32) (q : Int32) (h : fX11_isBarred M w1 w2 w3 = some q) : CT ad cs yX11_isBarred cX11_isBarred 6 (some .boolean) 1 22 [.ref (ad 95), .int w1, .int w2, .int w3] M (some (.int q)) M := by
  refine CT.of RX11 (by decide +kernel) rfl (Nat.le_of_ble_eq_true rfl) (fun X hX hR => ?_)
  unfold fX11_isBarred at h
  show VV X 6 ad cs M 0 [(0, .ref (ad 95)), (1, .int w1), (2, .int w2), (3, .int w3)] []
  refine v_iconst (pc := 0) hX dX11_isBarred_0 ic_1 ?_
  refine v_istore (pc := 1) [(4, .int 1), (0, .ref (ad 95)), (1, .int w1), (2, .int w2), (3, .int w3)] hX dX11_isBarred_1 (by decide) rfl ?_
  refine v_iconst (pc := 3) hX dX11_isBarred_3 ic_0 ?_
  refine v_istore (pc := 4) [(5, .int 0), (4, .int 1), (0, .ref (ad 95)), (1, .int w1), (2, .int w2), (3, .int w3)] hX dX11_isBarred_4 (by decide) rfl ?_
  have L18 := v_itr (fX11_isBarred_L6 M w1 w2 w3) (fun z => VV X 6 ad cs M 6 [(0, .ref (ad 95)), (1, .int w1), (2, .int w2), (3, .int w3), (4, .int z.1), (5, .int z.2)] []) (fun z => VV X 6 ad cs M 67 [(4, .int z)] []) (by
    rintro ⟨x1, x2⟩ q h hK
    unfold fX11_isBarred_L6 at h
    have h := u2_b h
    show VV X 6 ad cs M 6 [(0, .ref (ad 95)), (1, .int w1), (2, .int w2), (3, .int w3), (4, .int x1), (5, .int x2)] []
    refine v_iload (pc := 6) 5 hX dX11_isBarred_6 rfl ?_
    refine v_aload_n (pc := 8) 0 hX dX11_isBarred_8 rfl ?_
    refine v_getR (pc := 9) (t := 96) hX (hcs 95 (Nat.le_of_ble_eq_true rfl) (Nat.le_of_ble_eq_true rfl)) sh_95 fl_11_7 rfl dX11_isBarred_9 ?_
    refine v_iconst (pc := 12) hX dX11_isBarred_12 ic_2 ?_
    refine v_iald (pc := 13) hX (hcs 96 (Nat.le_of_ble_eq_true rfl) (Nat.le_of_ble_eq_true rfl)) sh_96 (ib_2 (by decide)) ix_2 dX11_isBarred_13 ?_
    refine v_icmp_ge (pc := 14) (tgt := 67) hX dX11_isBarred_14 (by decide) (fun h3 => ?_) (fun h3 => ?_)
    · have h := if_t h h3
      obtain rfl := Option.some.inj h
      exact v_sub [4] rfl hK
    · have h := if_f h h3
      refine v_iload (pc := 17) 4 hX dX11_isBarred_17 rfl ?_
      obtain ⟨k4, ek4, h⟩ := bd_e h
      have K5 : ∀ (x6 : Int32), k4 x6 = some q → VV X 6 ad cs M 59 [(0, .ref (ad 95)), (1, .int w1), (2, .int w2), (3, .int w3), (5, .int x2)] [.int x6] := by
        intro x6 h
        subst ek4
        refine v_istore (pc := 59) [(4, .int x6), (0, .ref (ad 95)), (1, .int w1), (2, .int w2), (3, .int w3), (5, .int x2)] hX dX11_isBarred_59 (by decide) rfl ?_
        obtain ⟨x7, ex7, h⟩ := bd_e h
        refine v_iinc (v := x7) (pc := 61) 5 [(5, .int x7), (4, .int x6), (0, .ref (ad 95)), (1, .int w1), (2, .int w2), (3, .int w3)] hX dX11_isBarred_61 rfl (ex7.trans (by rw [ic_1])) (by decide) rfl ?_
        refine v_goto (pc := 64) (tgt := 6) hX dX11_isBarred_64 (by decide) ?_
        obtain rfl := Option.some.inj h
        exact v_sub [2, 3, 4, 5, 1, 0] rfl hK
      obtain ⟨k8, ek8, h⟩ := bd_e h
      have K9 : ∀ (_ : Unit), k8 () = some q → VV X 6 ad cs M 58 [(0, .ref (ad 95)), (1, .int w1), (2, .int w2), (3, .int w3), (5, .int x2)] [] := by
        intro _ h
        subst ek8
        refine v_iconst (pc := 58) hX dX11_isBarred_58 ic_0 ?_
        exact v_sub [0, 1, 2, 3, 4] rfl (K5 0 h)
      refine v_if_eq (pc := 19) (tgt := 58) hX dX11_isBarred_19 (by decide) (fun h10 => ?_) (fun h10 => ?_)
      · have h := if_t h h10
        exact v_sub [0, 1, 2, 3, 5] rfl (K9 () h)
      · have h := if_f h h10
        refine v_iload_n (pc := 22) 1 hX dX11_isBarred_22 rfl ?_
        refine v_aload_n (pc := 23) 0 hX dX11_isBarred_23 rfl ?_
        refine v_iload (pc := 24) 5 hX dX11_isBarred_24 rfl ?_
        refine v_iconst (pc := 26) hX dX11_isBarred_26 ic_0 ?_
        obtain ⟨x12, h11, h⟩ := b1_e h
        refine v_callV (pc := 27) [.int x2, .int 0] (some (.int x12)) M hX cv_11_98 (c_X11_step (sub_cs hcs (Nat.le_of_ble_eq_true rfl) (Nat.le_of_ble_eq_true rfl)) M x2 0 x12 h11) (hcs 95 (Nat.le_of_ble_eq_true rfl) (Nat.le_of_ble_eq_true rfl)) sh_95 rfl rfl rfl ⟨Nat.le_of_ble_eq_true rfl, Nat.le_of_ble_eq_true rfl⟩ (Nat.le_of_ble_eq_true rfl) dX11_isBarred_27 ?_
        show VV X 6 ad cs M 30 [(0, .ref (ad 95)), (1, .int w1), (2, .int w2), (3, .int w3), (4, .int x1), (5, .int x2)] [.int x12, .int w1]
        refine v_imul (pc := 30) hX dX11_isBarred_30 ?_
        refine v_iload_n (pc := 31) 2 hX dX11_isBarred_31 rfl ?_
        refine v_aload_n (pc := 32) 0 hX dX11_isBarred_32 rfl ?_
        refine v_iload (pc := 33) 5 hX dX11_isBarred_33 rfl ?_
        refine v_iconst (pc := 35) hX dX11_isBarred_35 ic_1 ?_
        obtain ⟨x14, h13, h⟩ := b1_e h
        refine v_callV (pc := 36) [.int x2, .int 1] (some (.int x14)) M hX cv_11_98 (c_X11_step (sub_cs hcs (Nat.le_of_ble_eq_true rfl) (Nat.le_of_ble_eq_true rfl)) M x2 1 x14 h13) (hcs 95 (Nat.le_of_ble_eq_true rfl) (Nat.le_of_ble_eq_true rfl)) sh_95 rfl rfl rfl ⟨Nat.le_of_ble_eq_true rfl, Nat.le_of_ble_eq_true rfl⟩ (Nat.le_of_ble_eq_true rfl) dX11_isBarred_36 ?_
        show VV X 6 ad cs M 39 [(0, .ref (ad 95)), (1, .int w1), (2, .int w2), (3, .int w3), (4, .int x1), (5, .int x2)] [.int x14, .int w2, .int (w1 * x12)]
        refine v_imul (pc := 39) hX dX11_isBarred_39 ?_
        refine v_iadd (pc := 40) hX dX11_isBarred_40 ?_
        refine v_iload_n (pc := 41) 3 hX dX11_isBarred_41 rfl ?_
        refine v_aload_n (pc := 42) 0 hX dX11_isBarred_42 rfl ?_
        refine v_iload (pc := 43) 5 hX dX11_isBarred_43 rfl ?_
        refine v_iconst (pc := 45) hX dX11_isBarred_45 ic_2 ?_
        obtain ⟨x16, h15, h⟩ := b1_e h
        refine v_callV (pc := 46) [.int x2, .int 2] (some (.int x16)) M hX cv_11_98 (c_X11_step (sub_cs hcs (Nat.le_of_ble_eq_true rfl) (Nat.le_of_ble_eq_true rfl)) M x2 2 x16 h15) (hcs 95 (Nat.le_of_ble_eq_true rfl) (Nat.le_of_ble_eq_true rfl)) sh_95 rfl rfl rfl ⟨Nat.le_of_ble_eq_true rfl, Nat.le_of_ble_eq_true rfl⟩ (Nat.le_of_ble_eq_true rfl) dX11_isBarred_46 ?_
        show VV X 6 ad cs M 49 [(0, .ref (ad 95)), (1, .int w1), (2, .int w2), (3, .int w3), (4, .int x1), (5, .int x2)] [.int x16, .int w3, .int ((w1 * x12) + (w2 * x14))]
        refine v_imul (pc := 49) hX dX11_isBarred_49 ?_
        refine v_iadd (pc := 50) hX dX11_isBarred_50 ?_
        refine v_if_gt (pc := 51) (tgt := 58) hX dX11_isBarred_51 (by decide) (fun h17 => ?_) (fun h17 => ?_)
        · have h := if_t h h17
          exact v_sub [0, 1, 2, 3, 5] rfl (K9 () h)
        · have h := if_f h h17
          refine v_iconst (pc := 54) hX dX11_isBarred_54 ic_1 ?_
          refine v_goto (pc := 55) (tgt := 59) hX dX11_isBarred_55 (by decide) ?_
          exact v_sub [0, 1, 2, 3, 5] rfl (K5 1 h)
  )
  obtain ⟨x19, h21, h⟩ := b1_e h
  refine v_sub [2, 3, 4, 5, 1, 0] rfl ?_
  refine L18 1000 _ _ h21 ?_
  show VV X 6 ad cs M 67 [(4, .int x19)] []
  refine v_iload (pc := 67) 0 hX dX11_isBarred_67 rfl ?_
  obtain ⟨g20, h⟩ := gd_e h
  obtain rfl := Option.some.inj h
  exact v_zret (pc := 69) hX hR g20 dX11_isBarred_69
set_option maxHeartbeats 4000000 in
set_option maxRecDepth 100000 in
theorem c_X11_isBarredBoth {ad : Nat → Nat} {cs : List Nat} (hcs : ∀ k, 95 ≤ k → k < 97 → k ∈ cs) (M : Mm) (w1 : Int32) (w2 : Int32) (w3 : Int32) (q : Int32) (h : fX11_isBarredBoth M w1 w2 w3 = some q) : CT ad cs yX11_isBarredBoth cX11_isBarredBoth 4 (some .boolean) 2 47 [.ref (ad 95), .int w1, .int w2, .int w3] M (some (.int q)) M := by
  refine CT.of RX11 (by decide +kernel) rfl (Nat.le_of_ble_eq_true rfl) (fun X hX hR => ?_)
  unfold fX11_isBarredBoth at h
  show VV X 4 ad cs M 0 [(0, .ref (ad 95)), (1, .int w1), (2, .int w2), (3, .int w3)] []
  refine v_aload_n (pc := 0) 0 hX dX11_isBarredBoth_0 rfl ?_
  refine v_iload_n (pc := 1) 1 hX dX11_isBarredBoth_1 rfl ?_
  refine v_iload_n (pc := 2) 2 hX dX11_isBarredBoth_2 rfl ?_
  refine v_iload_n (pc := 3) 3 hX dX11_isBarredBoth_3 rfl ?_
  obtain ⟨x2, h1, h⟩ := b1_e h
  refine v_callV (pc := 4) [.int w1, .int w2, .int w3] (some (.int x2)) M hX cv_11_155 (c_X11_isBarred (sub_cs hcs (Nat.le_of_ble_eq_true rfl) (Nat.le_of_ble_eq_true rfl)) M w1 w2 w3 x2 h1) (hcs 95 (Nat.le_of_ble_eq_true rfl) (Nat.le_of_ble_eq_true rfl)) sh_95 rfl rfl rfl ⟨Nat.le_of_ble_eq_true rfl, Nat.le_of_ble_eq_true rfl⟩ (Nat.le_of_ble_eq_true rfl) dX11_isBarredBoth_4 ?_
  show VV X 4 ad cs M 7 [(0, .ref (ad 95)), (1, .int w1), (2, .int w2), (3, .int w3)] [.int x2]
  refine v_if_ne (pc := 7) (tgt := 23) hX dX11_isBarredBoth_7 (by decide) (fun h3 => ?_) (fun h3 => ?_)
  · have h := if_f h h3
    refine v_iconst (pc := 23) hX dX11_isBarredBoth_23 ic_1 ?_
    refine v_goto (pc := 24) (tgt := 28) hX dX11_isBarredBoth_24 (by decide) ?_
    obtain rfl := Option.some.inj h
    exact v_zret (pc := 28) hX hR (Or.inr rfl) dX11_isBarredBoth_28
  · have h := if_t h h3
    refine v_aload_n (pc := 10) 0 hX dX11_isBarredBoth_10 rfl ?_
    refine v_iload_n (pc := 11) 1 hX dX11_isBarredBoth_11 rfl ?_
    refine v_ineg (pc := 12) hX dX11_isBarredBoth_12 ?_
    refine v_iload_n (pc := 13) 2 hX dX11_isBarredBoth_13 rfl ?_
    refine v_ineg (pc := 14) hX dX11_isBarredBoth_14 ?_
    refine v_iload_n (pc := 15) 3 hX dX11_isBarredBoth_15 rfl ?_
    refine v_ineg (pc := 16) hX dX11_isBarredBoth_16 ?_
    obtain ⟨x5, h4, h⟩ := b1_e h
    refine v_callV (pc := 17) [.int (-w1), .int (-w2), .int (-w3)] (some (.int x5)) M hX cv_11_155 (c_X11_isBarred (sub_cs hcs (Nat.le_of_ble_eq_true rfl) (Nat.le_of_ble_eq_true rfl)) M (-w1) (-w2) (-w3) x5 h4) (hcs 95 (Nat.le_of_ble_eq_true rfl) (Nat.le_of_ble_eq_true rfl)) sh_95 rfl rfl rfl ⟨Nat.le_of_ble_eq_true rfl, Nat.le_of_ble_eq_true rfl⟩ (Nat.le_of_ble_eq_true rfl) dX11_isBarredBoth_17 ?_
    show VV X 4 ad cs M 20 [(0, .ref (ad 95)), (1, .int w1), (2, .int w2), (3, .int w3)] [.int x5]
    refine v_if_eq (pc := 20) (tgt := 27) hX dX11_isBarredBoth_20 (by decide) (fun h6 => ?_) (fun h6 => ?_)
    · have h := if_t h h6
      refine v_iconst (pc := 27) hX dX11_isBarredBoth_27 ic_0 ?_
      obtain rfl := Option.some.inj h
      exact v_zret (pc := 28) hX hR (Or.inl rfl) dX11_isBarredBoth_28
    · have h := if_f h h6
      refine v_iconst (pc := 23) hX dX11_isBarredBoth_23 ic_1 ?_
      refine v_goto (pc := 24) (tgt := 28) hX dX11_isBarredBoth_24 (by decide) ?_
      obtain rfl := Option.some.inj h
      exact v_zret (pc := 28) hX hR (Or.inr rfl) dX11_isBarredBoth_28
set_option maxHeartbeats 4000000 in
set_option maxRecDepth 100000 in
theorem c_X11_spanThree {ad : Nat → Nat} {cs : List Nat} (hcs : ∀ k, 95 ≤ k → k < 97 → k ∈ cs) (M : Mm) (q : Int32) (h : fX11_spanThree M = some q) : CT ad cs yX11_spanThree cX11_spanThree 9 (some .boolean) 3 70 [.ref (ad 95)] M (some (.int q)) M := by
  refine CT.of RX11 (by decide +kernel) rfl (Nat.le_of_ble_eq_true rfl) (fun X hX hR => ?_)
  unfold fX11_spanThree at h
  show VV X 9 ad cs M 0 [(0, .ref (ad 95))] []
  refine v_iconst (pc := 0) hX dX11_spanThree_0 ic_0 ?_
  refine v_istore_n (pc := 1) [(1, .int 0), (0, .ref (ad 95))] hX dX11_spanThree_1 (by decide) rfl ?_
  refine v_iconst (pc := 2) hX dX11_spanThree_2 ic_0 ?_
  refine v_istore_n (pc := 3) [(2, .int 0), (1, .int 0), (0, .ref (ad 95))] hX dX11_spanThree_3 (by decide) rfl ?_
  refine v_iconst (pc := 4) hX dX11_spanThree_4 ic_0 ?_
  refine v_istore_n (pc := 5) [(3, .int 0), (2, .int 0), (1, .int 0), (0, .ref (ad 95))] hX dX11_spanThree_5 (by decide) rfl ?_
  have L69 := v_itr (fX11_spanThree_L6 M) (fun z => VV X 9 ad cs M 6 [(0, .ref (ad 95)), (1, .int z.1), (2, .int z.2.1), (3, .int z.2.2)] []) (fun z => VV X 9 ad cs M 195 [(1, .int z.1), (2, .int z.2)] []) (by
    rintro ⟨x1, x2, x3⟩ q h hK
    unfold fX11_spanThree_L6 at h
    have h := u3_b h
    show VV X 9 ad cs M 6 [(0, .ref (ad 95)), (1, .int x1), (2, .int x2), (3, .int x3)] []
    refine v_iload_n (pc := 6) 3 hX dX11_spanThree_6 rfl ?_
    refine v_aload_n (pc := 7) 0 hX dX11_spanThree_7 rfl ?_
    refine v_getR (pc := 8) (t := 96) hX (hcs 95 (Nat.le_of_ble_eq_true rfl) (Nat.le_of_ble_eq_true rfl)) sh_95 fl_11_7 rfl dX11_spanThree_8 ?_
    refine v_iconst (pc := 11) hX dX11_spanThree_11 ic_2 ?_
    refine v_iald (pc := 12) hX (hcs 96 (Nat.le_of_ble_eq_true rfl) (Nat.le_of_ble_eq_true rfl)) sh_96 (ib_2 (by decide)) ix_2 dX11_spanThree_12 ?_
    refine v_icmp_ge (pc := 13) (tgt := 195) hX dX11_spanThree_13 (by decide) (fun h4 => ?_) (fun h4 => ?_)
    · have h := if_t h h4
      obtain rfl := Option.some.inj h
      exact v_sub [1, 2] rfl hK
    · have h := if_f h h4
      refine v_iconst (pc := 16) hX dX11_spanThree_16 ic_0 ?_
      refine v_istore (pc := 17) [(4, .int 0), (0, .ref (ad 95)), (1, .int x1), (2, .int x2), (3, .int x3)] hX dX11_spanThree_17 (by decide) rfl ?_
      have L64 := v_itr (fX11_spanThree_L19 x3 M) (fun z => VV X 9 ad cs M 19 [(0, .ref (ad 95)), (1, .int z.1), (2, .int z.2.1), (3, .int x3), (4, .int z.2.2)] []) (fun z => VV X 9 ad cs M 189 [(0, .ref (ad 95)), (1, .int z.1), (2, .int z.2), (3, .int x3)] []) (by
        rintro ⟨x5, x6, x7⟩ q h hK
        unfold fX11_spanThree_L19 at h
        have h := u3_b h
        show VV X 9 ad cs M 19 [(0, .ref (ad 95)), (1, .int x5), (2, .int x6), (3, .int x3), (4, .int x7)] []
        refine v_iload (pc := 19) 4 hX dX11_spanThree_19 rfl ?_
        refine v_iload_n (pc := 21) 3 hX dX11_spanThree_21 rfl ?_
        refine v_icmp_ge (pc := 22) (tgt := 189) hX dX11_spanThree_22 (by decide) (fun h8 => ?_) (fun h8 => ?_)
        · have h := if_t h h8
          obtain rfl := Option.some.inj h
          exact v_sub [0, 1, 2, 3] rfl hK
        · have h := if_f h h8
          refine v_aload_n (pc := 25) 0 hX dX11_spanThree_25 rfl ?_
          refine v_iload_n (pc := 26) 3 hX dX11_spanThree_26 rfl ?_
          refine v_iconst (pc := 27) hX dX11_spanThree_27 ic_1 ?_
          obtain ⟨x10, h9, h⟩ := b1_e h
          refine v_callV (pc := 28) [.int x3, .int 1] (some (.int x10)) M hX cv_11_98 (c_X11_step (sub_cs hcs (Nat.le_of_ble_eq_true rfl) (Nat.le_of_ble_eq_true rfl)) M x3 1 x10 h9) (hcs 95 (Nat.le_of_ble_eq_true rfl) (Nat.le_of_ble_eq_true rfl)) sh_95 rfl rfl rfl ⟨Nat.le_of_ble_eq_true rfl, Nat.le_of_ble_eq_true rfl⟩ (Nat.le_of_ble_eq_true rfl) dX11_spanThree_28 ?_
          show VV X 9 ad cs M 31 [(0, .ref (ad 95)), (1, .int x5), (2, .int x6), (3, .int x3), (4, .int x7)] [.int x10]
          refine v_aload_n (pc := 31) 0 hX dX11_spanThree_31 rfl ?_
          refine v_iload (pc := 32) 4 hX dX11_spanThree_32 rfl ?_
          refine v_iconst (pc := 34) hX dX11_spanThree_34 ic_2 ?_
          obtain ⟨x12, h11, h⟩ := b1_e h
          refine v_callV (pc := 35) [.int x7, .int 2] (some (.int x12)) M hX cv_11_98 (c_X11_step (sub_cs hcs (Nat.le_of_ble_eq_true rfl) (Nat.le_of_ble_eq_true rfl)) M x7 2 x12 h11) (hcs 95 (Nat.le_of_ble_eq_true rfl) (Nat.le_of_ble_eq_true rfl)) sh_95 rfl rfl rfl ⟨Nat.le_of_ble_eq_true rfl, Nat.le_of_ble_eq_true rfl⟩ (Nat.le_of_ble_eq_true rfl) dX11_spanThree_35 ?_
          show VV X 9 ad cs M 38 [(0, .ref (ad 95)), (1, .int x5), (2, .int x6), (3, .int x3), (4, .int x7)] [.int x12, .int x10]
          refine v_imul (pc := 38) hX dX11_spanThree_38 ?_
          refine v_aload_n (pc := 39) 0 hX dX11_spanThree_39 rfl ?_
          refine v_iload_n (pc := 40) 3 hX dX11_spanThree_40 rfl ?_
          refine v_iconst (pc := 41) hX dX11_spanThree_41 ic_2 ?_
          obtain ⟨x14, h13, h⟩ := b1_e h
          refine v_callV (pc := 42) [.int x3, .int 2] (some (.int x14)) M hX cv_11_98 (c_X11_step (sub_cs hcs (Nat.le_of_ble_eq_true rfl) (Nat.le_of_ble_eq_true rfl)) M x3 2 x14 h13) (hcs 95 (Nat.le_of_ble_eq_true rfl) (Nat.le_of_ble_eq_true rfl)) sh_95 rfl rfl rfl ⟨Nat.le_of_ble_eq_true rfl, Nat.le_of_ble_eq_true rfl⟩ (Nat.le_of_ble_eq_true rfl) dX11_spanThree_42 ?_
          show VV X 9 ad cs M 45 [(0, .ref (ad 95)), (1, .int x5), (2, .int x6), (3, .int x3), (4, .int x7)] [.int x14, .int (x10 * x12)]
          refine v_aload_n (pc := 45) 0 hX dX11_spanThree_45 rfl ?_
          refine v_iload (pc := 46) 4 hX dX11_spanThree_46 rfl ?_
          refine v_iconst (pc := 48) hX dX11_spanThree_48 ic_1 ?_
          obtain ⟨x16, h15, h⟩ := b1_e h
          refine v_callV (pc := 49) [.int x7, .int 1] (some (.int x16)) M hX cv_11_98 (c_X11_step (sub_cs hcs (Nat.le_of_ble_eq_true rfl) (Nat.le_of_ble_eq_true rfl)) M x7 1 x16 h15) (hcs 95 (Nat.le_of_ble_eq_true rfl) (Nat.le_of_ble_eq_true rfl)) sh_95 rfl rfl rfl ⟨Nat.le_of_ble_eq_true rfl, Nat.le_of_ble_eq_true rfl⟩ (Nat.le_of_ble_eq_true rfl) dX11_spanThree_49 ?_
          show VV X 9 ad cs M 52 [(0, .ref (ad 95)), (1, .int x5), (2, .int x6), (3, .int x3), (4, .int x7)] [.int x16, .int x14, .int (x10 * x12)]
          refine v_imul (pc := 52) hX dX11_spanThree_52 ?_
          refine v_isub (pc := 53) hX dX11_spanThree_53 ?_
          obtain ⟨x17, ex17, h⟩ := bd_e h
          refine v_top ex17 ?_
          refine v_istore (pc := 54) [(5, .int x17), (0, .ref (ad 95)), (1, .int x5), (2, .int x6), (3, .int x3), (4, .int x7)] hX dX11_spanThree_54 (by decide) rfl ?_
          refine v_aload_n (pc := 56) 1 hX dX11_spanThree_56 rfl ?_
          refine v_iload_n (pc := 57) 4 hX dX11_spanThree_57 rfl ?_
          refine v_iconst (pc := 58) hX dX11_spanThree_58 ic_2 ?_
          obtain ⟨x19, h18, h⟩ := b1_e h
          refine v_callV (pc := 59) [.int x3, .int 2] (some (.int x19)) M hX cv_11_98 (c_X11_step (sub_cs hcs (Nat.le_of_ble_eq_true rfl) (Nat.le_of_ble_eq_true rfl)) M x3 2 x19 h18) (hcs 95 (Nat.le_of_ble_eq_true rfl) (Nat.le_of_ble_eq_true rfl)) sh_95 rfl rfl rfl ⟨Nat.le_of_ble_eq_true rfl, Nat.le_of_ble_eq_true rfl⟩ (Nat.le_of_ble_eq_true rfl) dX11_spanThree_59 ?_
          show VV X 9 ad cs M 62 [(5, .int x17), (0, .ref (ad 95)), (1, .int x5), (2, .int x6), (3, .int x3), (4, .int x7)] [.int x19]
          refine v_aload_n (pc := 62) 1 hX dX11_spanThree_62 rfl ?_
          refine v_iload (pc := 63) 5 hX dX11_spanThree_63 rfl ?_
          refine v_iconst (pc := 65) hX dX11_spanThree_65 ic_0 ?_
          obtain ⟨x21, h20, h⟩ := b1_e h
          refine v_callV (pc := 66) [.int x7, .int 0] (some (.int x21)) M hX cv_11_98 (c_X11_step (sub_cs hcs (Nat.le_of_ble_eq_true rfl) (Nat.le_of_ble_eq_true rfl)) M x7 0 x21 h20) (hcs 95 (Nat.le_of_ble_eq_true rfl) (Nat.le_of_ble_eq_true rfl)) sh_95 rfl rfl rfl ⟨Nat.le_of_ble_eq_true rfl, Nat.le_of_ble_eq_true rfl⟩ (Nat.le_of_ble_eq_true rfl) dX11_spanThree_66 ?_
          show VV X 9 ad cs M 69 [(5, .int x17), (0, .ref (ad 95)), (1, .int x5), (2, .int x6), (3, .int x3), (4, .int x7)] [.int x21, .int x19]
          refine v_imul (pc := 69) hX dX11_spanThree_69 ?_
          refine v_aload_n (pc := 70) 1 hX dX11_spanThree_70 rfl ?_
          refine v_iload_n (pc := 71) 4 hX dX11_spanThree_71 rfl ?_
          refine v_iconst (pc := 72) hX dX11_spanThree_72 ic_0 ?_
          obtain ⟨x23, h22, h⟩ := b1_e h
          refine v_callV (pc := 73) [.int x3, .int 0] (some (.int x23)) M hX cv_11_98 (c_X11_step (sub_cs hcs (Nat.le_of_ble_eq_true rfl) (Nat.le_of_ble_eq_true rfl)) M x3 0 x23 h22) (hcs 95 (Nat.le_of_ble_eq_true rfl) (Nat.le_of_ble_eq_true rfl)) sh_95 rfl rfl rfl ⟨Nat.le_of_ble_eq_true rfl, Nat.le_of_ble_eq_true rfl⟩ (Nat.le_of_ble_eq_true rfl) dX11_spanThree_73 ?_
          show VV X 9 ad cs M 76 [(5, .int x17), (0, .ref (ad 95)), (1, .int x5), (2, .int x6), (3, .int x3), (4, .int x7)] [.int x23, .int (x19 * x21)]
          refine v_aload_n (pc := 76) 1 hX dX11_spanThree_76 rfl ?_
          refine v_iload (pc := 77) 5 hX dX11_spanThree_77 rfl ?_
          refine v_iconst (pc := 79) hX dX11_spanThree_79 ic_2 ?_
          obtain ⟨x25, h24, h⟩ := b1_e h
          refine v_callV (pc := 80) [.int x7, .int 2] (some (.int x25)) M hX cv_11_98 (c_X11_step (sub_cs hcs (Nat.le_of_ble_eq_true rfl) (Nat.le_of_ble_eq_true rfl)) M x7 2 x25 h24) (hcs 95 (Nat.le_of_ble_eq_true rfl) (Nat.le_of_ble_eq_true rfl)) sh_95 rfl rfl rfl ⟨Nat.le_of_ble_eq_true rfl, Nat.le_of_ble_eq_true rfl⟩ (Nat.le_of_ble_eq_true rfl) dX11_spanThree_80 ?_
          show VV X 9 ad cs M 83 [(5, .int x17), (0, .ref (ad 95)), (1, .int x5), (2, .int x6), (3, .int x3), (4, .int x7)] [.int x25, .int x23, .int (x19 * x21)]
          refine v_imul (pc := 83) hX dX11_spanThree_83 ?_
          refine v_isub (pc := 84) hX dX11_spanThree_84 ?_
          obtain ⟨x26, ex26, h⟩ := bd_e h
          refine v_top ex26 ?_
          refine v_istore (pc := 85) [(6, .int x26), (5, .int x17), (0, .ref (ad 95)), (1, .int x5), (2, .int x6), (3, .int x3), (4, .int x7)] hX dX11_spanThree_85 (by decide) rfl ?_
          refine v_aload_n (pc := 87) 2 hX dX11_spanThree_87 rfl ?_
          refine v_iload_n (pc := 88) 5 hX dX11_spanThree_88 rfl ?_
          refine v_iconst (pc := 89) hX dX11_spanThree_89 ic_0 ?_
          obtain ⟨x28, h27, h⟩ := b1_e h
          refine v_callV (pc := 90) [.int x3, .int 0] (some (.int x28)) M hX cv_11_98 (c_X11_step (sub_cs hcs (Nat.le_of_ble_eq_true rfl) (Nat.le_of_ble_eq_true rfl)) M x3 0 x28 h27) (hcs 95 (Nat.le_of_ble_eq_true rfl) (Nat.le_of_ble_eq_true rfl)) sh_95 rfl rfl rfl ⟨Nat.le_of_ble_eq_true rfl, Nat.le_of_ble_eq_true rfl⟩ (Nat.le_of_ble_eq_true rfl) dX11_spanThree_90 ?_
          show VV X 9 ad cs M 93 [(6, .int x26), (5, .int x17), (0, .ref (ad 95)), (1, .int x5), (2, .int x6), (3, .int x3), (4, .int x7)] [.int x28]
          refine v_aload_n (pc := 93) 2 hX dX11_spanThree_93 rfl ?_
          refine v_iload (pc := 94) 6 hX dX11_spanThree_94 rfl ?_
          refine v_iconst (pc := 96) hX dX11_spanThree_96 ic_1 ?_
          obtain ⟨x30, h29, h⟩ := b1_e h
          refine v_callV (pc := 97) [.int x7, .int 1] (some (.int x30)) M hX cv_11_98 (c_X11_step (sub_cs hcs (Nat.le_of_ble_eq_true rfl) (Nat.le_of_ble_eq_true rfl)) M x7 1 x30 h29) (hcs 95 (Nat.le_of_ble_eq_true rfl) (Nat.le_of_ble_eq_true rfl)) sh_95 rfl rfl rfl ⟨Nat.le_of_ble_eq_true rfl, Nat.le_of_ble_eq_true rfl⟩ (Nat.le_of_ble_eq_true rfl) dX11_spanThree_97 ?_
          show VV X 9 ad cs M 100 [(6, .int x26), (5, .int x17), (0, .ref (ad 95)), (1, .int x5), (2, .int x6), (3, .int x3), (4, .int x7)] [.int x30, .int x28]
          refine v_imul (pc := 100) hX dX11_spanThree_100 ?_
          refine v_aload_n (pc := 101) 2 hX dX11_spanThree_101 rfl ?_
          refine v_iload_n (pc := 102) 5 hX dX11_spanThree_102 rfl ?_
          refine v_iconst (pc := 103) hX dX11_spanThree_103 ic_1 ?_
          obtain ⟨x32, h31, h⟩ := b1_e h
          refine v_callV (pc := 104) [.int x3, .int 1] (some (.int x32)) M hX cv_11_98 (c_X11_step (sub_cs hcs (Nat.le_of_ble_eq_true rfl) (Nat.le_of_ble_eq_true rfl)) M x3 1 x32 h31) (hcs 95 (Nat.le_of_ble_eq_true rfl) (Nat.le_of_ble_eq_true rfl)) sh_95 rfl rfl rfl ⟨Nat.le_of_ble_eq_true rfl, Nat.le_of_ble_eq_true rfl⟩ (Nat.le_of_ble_eq_true rfl) dX11_spanThree_104 ?_
          show VV X 9 ad cs M 107 [(6, .int x26), (5, .int x17), (0, .ref (ad 95)), (1, .int x5), (2, .int x6), (3, .int x3), (4, .int x7)] [.int x32, .int (x28 * x30)]
          refine v_aload_n (pc := 107) 2 hX dX11_spanThree_107 rfl ?_
          refine v_iload (pc := 108) 6 hX dX11_spanThree_108 rfl ?_
          refine v_iconst (pc := 110) hX dX11_spanThree_110 ic_0 ?_
          obtain ⟨x34, h33, h⟩ := b1_e h
          refine v_callV (pc := 111) [.int x7, .int 0] (some (.int x34)) M hX cv_11_98 (c_X11_step (sub_cs hcs (Nat.le_of_ble_eq_true rfl) (Nat.le_of_ble_eq_true rfl)) M x7 0 x34 h33) (hcs 95 (Nat.le_of_ble_eq_true rfl) (Nat.le_of_ble_eq_true rfl)) sh_95 rfl rfl rfl ⟨Nat.le_of_ble_eq_true rfl, Nat.le_of_ble_eq_true rfl⟩ (Nat.le_of_ble_eq_true rfl) dX11_spanThree_111 ?_
          show VV X 9 ad cs M 114 [(6, .int x26), (5, .int x17), (0, .ref (ad 95)), (1, .int x5), (2, .int x6), (3, .int x3), (4, .int x7)] [.int x34, .int x32, .int (x28 * x30)]
          refine v_imul (pc := 114) hX dX11_spanThree_114 ?_
          refine v_isub (pc := 115) hX dX11_spanThree_115 ?_
          obtain ⟨x35, ex35, h⟩ := bd_e h
          refine v_top ex35 ?_
          refine v_istore (pc := 116) [(7, .int x35), (6, .int x26), (5, .int x17), (0, .ref (ad 95)), (1, .int x5), (2, .int x6), (3, .int x3), (4, .int x7)] hX dX11_spanThree_116 (by decide) rfl ?_
          refine v_iload (pc := 118) 2 hX dX11_spanThree_118 rfl ?_
          obtain ⟨k36, ek36, h⟩ := bd_e h
          have K37 : ∀ (x38 : Int32), k36 x38 = some q → VV X 9 ad cs M 138 [(0, .ref (ad 95)), (1, .int x5), (2, .int x6), (3, .int x3), (4, .int x7), (5, .int x17), (6, .int x26), (7, .int x35)] [.int x38] := by
            intro x38 h
            subst ek36
            refine v_istore (pc := 138) [(8, .int x38), (0, .ref (ad 95)), (1, .int x5), (2, .int x6), (3, .int x3), (4, .int x7), (5, .int x17), (6, .int x26), (7, .int x35)] hX dX11_spanThree_138 (by decide) rfl ?_
            refine v_iload_n (pc := 140) 2 hX dX11_spanThree_140 rfl ?_
            obtain ⟨k39, ek39, h⟩ := bd_e h
            have K40 : ∀ (x41 : Int32), k39 x41 = some q → VV X 9 ad cs M 154 [(0, .ref (ad 95)), (2, .int x6), (3, .int x3), (4, .int x7), (5, .int x17), (6, .int x26), (7, .int x35), (8, .int x38)] [.int x41] := by
              intro x41 h
              subst ek39
              refine v_istore_n (pc := 154) [(1, .int x41), (0, .ref (ad 95)), (2, .int x6), (3, .int x3), (4, .int x7), (5, .int x17), (6, .int x26), (7, .int x35), (8, .int x38)] hX dX11_spanThree_154 (by decide) rfl ?_
              refine v_iload_n (pc := 155) 2 hX dX11_spanThree_155 rfl ?_
              obtain ⟨k42, ek42, h⟩ := bd_e h
              have K43 : ∀ (x44 : Int32), k42 x44 = some q → VV X 9 ad cs M 182 [(0, .ref (ad 95)), (1, .int x41), (3, .int x3), (4, .int x7)] [.int x44] := by
                intro x44 h
                subst ek42
                refine v_istore_n (pc := 182) [(2, .int x44), (0, .ref (ad 95)), (1, .int x41), (3, .int x3), (4, .int x7)] hX dX11_spanThree_182 (by decide) rfl ?_
                obtain ⟨x45, ex45, h⟩ := bd_e h
                refine v_iinc (v := x45) (pc := 183) 4 [(4, .int x45), (2, .int x44), (0, .ref (ad 95)), (1, .int x41), (3, .int x3)] hX dX11_spanThree_183 rfl (ex45.trans (by rw [ic_1])) (by decide) rfl ?_
                refine v_goto (pc := 186) (tgt := 19) hX dX11_spanThree_186 (by decide) ?_
                obtain rfl := Option.some.inj h
                exact v_sub [2, 3, 1, 4, 0] rfl hK
              obtain ⟨k46, ek46, h⟩ := bd_e h
              have K47 : ∀ (_ : Unit), k46 () = some q → VV X 9 ad cs M 177 [(0, .ref (ad 95)), (1, .int x41), (3, .int x3), (4, .int x7)] [] := by
                intro _ h
                subst ek46
                refine v_iconst (pc := 177) hX dX11_spanThree_177 ic_1 ?_
                refine v_goto (pc := 178) (tgt := 182) hX dX11_spanThree_178 (by decide) ?_
                exact v_sub [0, 1, 2, 3] rfl (K43 1 h)
              refine v_if_ne (pc := 156) (tgt := 177) hX dX11_spanThree_156 (by decide) (fun h48 => ?_) (fun h48 => ?_)
              · have h := if_f h h48
                exact v_sub [1, 0, 3, 4] rfl (K47 () h)
              · have h := if_t h h48
                refine v_iload (pc := 159) 8 hX dX11_spanThree_159 rfl ?_
                obtain ⟨k49, ek49, h⟩ := bd_e h
                have K50 : ∀ (_ : Unit), k49 () = some q → VV X 9 ad cs M 181 [(0, .ref (ad 95)), (1, .int x41), (3, .int x3), (4, .int x7)] [] := by
                  intro _ h
                  subst ek49
                  refine v_iconst (pc := 181) hX dX11_spanThree_181 ic_0 ?_
                  exact v_sub [0, 1, 2, 3] rfl (K43 0 h)
                refine v_if_eq (pc := 161) (tgt := 181) hX dX11_spanThree_161 (by decide) (fun h51 => ?_) (fun h51 => ?_)
                · have h := if_t h h51
                  exact v_sub [1, 0, 3, 4] rfl (K50 () h)
                · have h := if_f h h51
                  refine v_aload_n (pc := 164) 1 hX dX11_spanThree_164 rfl ?_
                  refine v_iload (pc := 165) 5 hX dX11_spanThree_165 rfl ?_
                  refine v_iload (pc := 167) 6 hX dX11_spanThree_167 rfl ?_
                  refine v_iload (pc := 169) 7 hX dX11_spanThree_169 rfl ?_
                  obtain ⟨x53, h52, h⟩ := b1_e h
                  refine v_callV (pc := 171) [.int x17, .int x26, .int x35] (some (.int x53)) M hX cv_11_158 (c_X11_isBarredBoth (sub_cs hcs (Nat.le_of_ble_eq_true rfl) (Nat.le_of_ble_eq_true rfl)) M x17 x26 x35 x53 h52) (hcs 95 (Nat.le_of_ble_eq_true rfl) (Nat.le_of_ble_eq_true rfl)) sh_95 rfl rfl rfl ⟨Nat.le_of_ble_eq_true rfl, Nat.le_of_ble_eq_true rfl⟩ (Nat.le_of_ble_eq_true rfl) dX11_spanThree_171 ?_
                  show VV X 9 ad cs M 174 [(1, .int x41), (0, .ref (ad 95)), (2, .int x6), (3, .int x3), (4, .int x7), (5, .int x17), (6, .int x26), (7, .int x35), (8, .int x38)] [.int x53]
                  refine v_if_eq (pc := 174) (tgt := 181) hX dX11_spanThree_174 (by decide) (fun h54 => ?_) (fun h54 => ?_)
                  · have h := if_t h h54
                    exact v_sub [1, 0, 3, 4] rfl (K50 () h)
                  · have h := if_f h h54
                    exact v_sub [1, 0, 3, 4] rfl (K47 () h)
            obtain ⟨k55, ek55, h⟩ := bd_e h
            have K56 : ∀ (_ : Unit), k55 () = some q → VV X 9 ad cs M 149 [(0, .ref (ad 95)), (2, .int x6), (3, .int x3), (4, .int x7), (5, .int x17), (6, .int x26), (7, .int x35), (8, .int x38)] [] := by
              intro _ h
              subst ek55
              refine v_iconst (pc := 149) hX dX11_spanThree_149 ic_1 ?_
              refine v_goto (pc := 150) (tgt := 154) hX dX11_spanThree_150 (by decide) ?_
              exact v_sub [0, 1, 2, 3, 4, 5, 6, 7] rfl (K40 1 h)
            refine v_if_ne (pc := 141) (tgt := 149) hX dX11_spanThree_141 (by decide) (fun h57 => ?_) (fun h57 => ?_)
            · have h := if_f h h57
              exact v_sub [1, 3, 4, 5, 6, 7, 8, 0] rfl (K56 () h)
            · have h := if_t h h57
              refine v_iload (pc := 144) 0 hX dX11_spanThree_144 rfl ?_
              refine v_if_eq (pc := 146) (tgt := 153) hX dX11_spanThree_146 (by decide) (fun h58 => ?_) (fun h58 => ?_)
              · have h := if_t h h58
                refine v_iconst (pc := 153) hX dX11_spanThree_153 ic_0 ?_
                exact v_sub [1, 3, 4, 5, 6, 7, 8, 0] rfl (K40 0 h)
              · have h := if_f h h58
                exact v_sub [1, 3, 4, 5, 6, 7, 8, 0] rfl (K56 () h)
          obtain ⟨k59, ek59, h⟩ := bd_e h
          have K60 : ∀ (_ : Unit), k59 () = some q → VV X 9 ad cs M 133 [(0, .ref (ad 95)), (1, .int x5), (2, .int x6), (3, .int x3), (4, .int x7), (5, .int x17), (6, .int x26), (7, .int x35)] [] := by
            intro _ h
            subst ek59
            refine v_iconst (pc := 133) hX dX11_spanThree_133 ic_1 ?_
            refine v_goto (pc := 134) (tgt := 138) hX dX11_spanThree_134 (by decide) ?_
            exact v_sub [0, 1, 2, 3, 4, 5, 6, 7] rfl (K37 1 h)
          refine v_if_ne (pc := 120) (tgt := 133) hX dX11_spanThree_120 (by decide) (fun h61 => ?_) (fun h61 => ?_)
          · have h := if_f h h61
            exact v_sub [3, 4, 5, 6, 7, 2, 1, 0] rfl (K60 () h)
          · have h := if_t h h61
            refine v_iload (pc := 123) 1 hX dX11_spanThree_123 rfl ?_
            refine v_if_ne (pc := 125) (tgt := 133) hX dX11_spanThree_125 (by decide) (fun h62 => ?_) (fun h62 => ?_)
            · have h := if_f h h62
              exact v_sub [3, 4, 5, 6, 7, 2, 1, 0] rfl (K60 () h)
            · have h := if_t h h62
              refine v_iload (pc := 128) 0 hX dX11_spanThree_128 rfl ?_
              refine v_if_eq (pc := 130) (tgt := 137) hX dX11_spanThree_130 (by decide) (fun h63 => ?_) (fun h63 => ?_)
              · have h := if_t h h63
                refine v_iconst (pc := 137) hX dX11_spanThree_137 ic_0 ?_
                exact v_sub [3, 4, 5, 6, 7, 2, 1, 0] rfl (K37 0 h)
              · have h := if_f h h63
                exact v_sub [3, 4, 5, 6, 7, 2, 1, 0] rfl (K60 () h)
      )
      obtain ⟨x65, x66, h68, h⟩ := b2_e h
      refine v_sub [1, 2, 3, 4, 0] rfl ?_
      refine L64 1000 _ _ h68 ?_
      show VV X 9 ad cs M 189 [(0, .ref (ad 95)), (1, .int x65), (2, .int x66), (3, .int x3)] []
      obtain ⟨x67, ex67, h⟩ := bd_e h
      refine v_iinc (v := x67) (pc := 189) 3 [(3, .int x67), (0, .ref (ad 95)), (1, .int x65), (2, .int x66)] hX dX11_spanThree_189 rfl (ex67.trans (by rw [ic_1])) (by decide) rfl ?_
      refine v_goto (pc := 192) (tgt := 6) hX dX11_spanThree_192 (by decide) ?_
      obtain rfl := Option.some.inj h
      exact v_sub [1, 2, 3, 0] rfl hK
  )
  obtain ⟨x70, x71, h74, h⟩ := b2_e h
  refine v_sub [3, 2, 1, 0] rfl ?_
  refine L69 1000 _ _ h74 ?_
  show VV X 9 ad cs M 195 [(1, .int x70), (2, .int x71)] []
  refine v_iload_n (pc := 195) 0 hX dX11_spanThree_195 rfl ?_
  refine v_if_eq (pc := 196) (tgt := 207) hX dX11_spanThree_196 (by decide) (fun h72 => ?_) (fun h72 => ?_)
  · have h := if_t h h72
    refine v_iconst (pc := 207) hX dX11_spanThree_207 ic_0 ?_
    obtain rfl := Option.some.inj h
    exact v_zret (pc := 208) hX hR (Or.inl rfl) dX11_spanThree_208
  · have h := if_f h h72
    refine v_iload_n (pc := 199) 1 hX dX11_spanThree_199 rfl ?_
    refine v_if_ne (pc := 200) (tgt := 207) hX dX11_spanThree_200 (by decide) (fun h73 => ?_) (fun h73 => ?_)
    · have h := if_f h h73
      refine v_iconst (pc := 207) hX dX11_spanThree_207 ic_0 ?_
      obtain rfl := Option.some.inj h
      exact v_zret (pc := 208) hX hR (Or.inl rfl) dX11_spanThree_208
    · have h := if_t h h73
      refine v_iconst (pc := 203) hX dX11_spanThree_203 ic_1 ?_
      refine v_goto (pc := 204) (tgt := 208) hX dX11_spanThree_204 (by decide) ?_
      obtain rfl := Option.some.inj h
      exact v_zret (pc := 208) hX hR (Or.inr rfl) dX11_spanThree_208
set_option maxHeartbeats 4000000 in
set_option maxRecDepth 100000 in
theorem c_X11_spanTwo {ad : Nat → Nat} {cs : List Nat} (hcs : ∀ k, 95 ≤ k → k < 97 → k ∈ cs) (M : Mm) (q : Int32) (h : fX11_spanTwo M = some q) : CT ad cs yX11_spanTwo cX11_spanTwo 3 (some .boolean) 3 70 [.ref (ad 95)] M (some (.int q)) M := by
  refine CT.of RX11 (by decide +kernel) rfl (Nat.le_of_ble_eq_true rfl) (fun X hX hR => ?_)
  unfold fX11_spanTwo at h
  show VV X 3 ad cs M 0 [(0, .ref (ad 95))] []
  refine v_aload_n (pc := 0) 0 hX dX11_spanTwo_0 rfl ?_
  refine v_getR (pc := 1) (t := 96) hX (hcs 95 (Nat.le_of_ble_eq_true rfl) (Nat.le_of_ble_eq_true rfl)) sh_95 fl_11_7 rfl dX11_spanTwo_1 ?_
  refine v_iconst (pc := 4) hX dX11_spanTwo_4 ic_2 ?_
  refine v_iald (pc := 5) hX (hcs 96 (Nat.le_of_ble_eq_true rfl) (Nat.le_of_ble_eq_true rfl)) sh_96 (ib_2 (by decide)) ix_2 dX11_spanTwo_5 ?_
  obtain ⟨k1, ek1, h⟩ := bd_e h
  have K2 : ∀ (x3 : Int32), k1 x3 = some q → VV X 3 ad cs M 14 [(0, .ref (ad 95))] [.int x3] := by
    intro x3 h
    subst ek1
    refine v_istore_n (pc := 14) [(1, .int x3), (0, .ref (ad 95))] hX dX11_spanTwo_14 (by decide) rfl ?_
    refine v_iconst (pc := 15) hX dX11_spanTwo_15 ic_0 ?_
    refine v_istore_n (pc := 16) [(2, .int 0), (1, .int x3), (0, .ref (ad 95))] hX dX11_spanTwo_16 (by decide) rfl ?_
    have L21 := v_itr (fX11_spanTwo_L17 M) (fun z => VV X 3 ad cs M 17 [(0, .ref (ad 95)), (1, .int z.1), (2, .int z.2)] []) (fun z => VV X 3 ad cs M 64 [(1, .int z)] []) (by
      rintro ⟨x4, x5⟩ q h hK
      unfold fX11_spanTwo_L17 at h
      have h := u2_b h
      show VV X 3 ad cs M 17 [(0, .ref (ad 95)), (1, .int x4), (2, .int x5)] []
      refine v_iload_n (pc := 17) 2 hX dX11_spanTwo_17 rfl ?_
      refine v_aload_n (pc := 18) 0 hX dX11_spanTwo_18 rfl ?_
      refine v_getR (pc := 19) (t := 96) hX (hcs 95 (Nat.le_of_ble_eq_true rfl) (Nat.le_of_ble_eq_true rfl)) sh_95 fl_11_7 rfl dX11_spanTwo_19 ?_
      refine v_iconst (pc := 22) hX dX11_spanTwo_22 ic_2 ?_
      refine v_iald (pc := 23) hX (hcs 96 (Nat.le_of_ble_eq_true rfl) (Nat.le_of_ble_eq_true rfl)) sh_96 (ib_2 (by decide)) ix_2 dX11_spanTwo_23 ?_
      refine v_icmp_ge (pc := 24) (tgt := 64) hX dX11_spanTwo_24 (by decide) (fun h6 => ?_) (fun h6 => ?_)
      · have h := if_t h h6
        obtain rfl := Option.some.inj h
        exact v_sub [1] rfl hK
      · have h := if_f h h6
        refine v_iload_n (pc := 27) 1 hX dX11_spanTwo_27 rfl ?_
        obtain ⟨k7, ek7, h⟩ := bd_e h
        have K8 : ∀ (x9 : Int32), k7 x9 = some q → VV X 3 ad cs M 57 [(0, .ref (ad 95)), (2, .int x5)] [.int x9] := by
          intro x9 h
          subst ek7
          refine v_istore_n (pc := 57) [(1, .int x9), (0, .ref (ad 95)), (2, .int x5)] hX dX11_spanTwo_57 (by decide) rfl ?_
          obtain ⟨x10, ex10, h⟩ := bd_e h
          refine v_iinc (v := x10) (pc := 58) 2 [(2, .int x10), (1, .int x9), (0, .ref (ad 95))] hX dX11_spanTwo_58 rfl (ex10.trans (by rw [ic_1])) (by decide) rfl ?_
          refine v_goto (pc := 61) (tgt := 17) hX dX11_spanTwo_61 (by decide) ?_
          obtain rfl := Option.some.inj h
          exact v_sub [2, 1, 0] rfl hK
        obtain ⟨k11, ek11, h⟩ := bd_e h
        have K12 : ∀ (_ : Unit), k11 () = some q → VV X 3 ad cs M 52 [(0, .ref (ad 95)), (2, .int x5)] [] := by
          intro _ h
          subst ek11
          refine v_iconst (pc := 52) hX dX11_spanTwo_52 ic_1 ?_
          refine v_goto (pc := 53) (tgt := 57) hX dX11_spanTwo_53 (by decide) ?_
          exact v_sub [0, 1] rfl (K8 1 h)
        refine v_if_ne (pc := 28) (tgt := 52) hX dX11_spanTwo_28 (by decide) (fun h13 => ?_) (fun h13 => ?_)
        · have h := if_f h h13
          exact v_sub [0, 2] rfl (K12 () h)
        · have h := if_t h h13
          refine v_aload_n (pc := 31) 0 hX dX11_spanTwo_31 rfl ?_
          refine v_aload_n (pc := 32) 0 hX dX11_spanTwo_32 rfl ?_
          refine v_iload_n (pc := 33) 2 hX dX11_spanTwo_33 rfl ?_
          refine v_iconst (pc := 34) hX dX11_spanTwo_34 ic_1 ?_
          obtain ⟨x15, h14, h⟩ := b1_e h
          refine v_callV (pc := 35) [.int x5, .int 1] (some (.int x15)) M hX cv_11_98 (c_X11_step (sub_cs hcs (Nat.le_of_ble_eq_true rfl) (Nat.le_of_ble_eq_true rfl)) M x5 1 x15 h14) (hcs 95 (Nat.le_of_ble_eq_true rfl) (Nat.le_of_ble_eq_true rfl)) sh_95 rfl rfl rfl ⟨Nat.le_of_ble_eq_true rfl, Nat.le_of_ble_eq_true rfl⟩ (Nat.le_of_ble_eq_true rfl) dX11_spanTwo_35 ?_
          show VV X 3 ad cs M 38 [(0, .ref (ad 95)), (1, .int x4), (2, .int x5)] [.int x15, .ref (ad 95)]
          refine v_ineg (pc := 38) hX dX11_spanTwo_38 ?_
          refine v_aload_n (pc := 39) 0 hX dX11_spanTwo_39 rfl ?_
          refine v_iload_n (pc := 40) 2 hX dX11_spanTwo_40 rfl ?_
          refine v_iconst (pc := 41) hX dX11_spanTwo_41 ic_0 ?_
          obtain ⟨x17, h16, h⟩ := b1_e h
          refine v_callV (pc := 42) [.int x5, .int 0] (some (.int x17)) M hX cv_11_98 (c_X11_step (sub_cs hcs (Nat.le_of_ble_eq_true rfl) (Nat.le_of_ble_eq_true rfl)) M x5 0 x17 h16) (hcs 95 (Nat.le_of_ble_eq_true rfl) (Nat.le_of_ble_eq_true rfl)) sh_95 rfl rfl rfl ⟨Nat.le_of_ble_eq_true rfl, Nat.le_of_ble_eq_true rfl⟩ (Nat.le_of_ble_eq_true rfl) dX11_spanTwo_42 ?_
          show VV X 3 ad cs M 45 [(0, .ref (ad 95)), (1, .int x4), (2, .int x5)] [.int x17, .int (-x15), .ref (ad 95)]
          refine v_iconst (pc := 45) hX dX11_spanTwo_45 ic_0 ?_
          obtain ⟨x19, h18, h⟩ := b1_e h
          refine v_callV (pc := 46) [.int (-x15), .int x17, .int 0] (some (.int x19)) M hX cv_11_158 (c_X11_isBarredBoth (sub_cs hcs (Nat.le_of_ble_eq_true rfl) (Nat.le_of_ble_eq_true rfl)) M (-x15) x17 0 x19 h18) (hcs 95 (Nat.le_of_ble_eq_true rfl) (Nat.le_of_ble_eq_true rfl)) sh_95 rfl rfl rfl ⟨Nat.le_of_ble_eq_true rfl, Nat.le_of_ble_eq_true rfl⟩ (Nat.le_of_ble_eq_true rfl) dX11_spanTwo_46 ?_
          show VV X 3 ad cs M 49 [(0, .ref (ad 95)), (1, .int x4), (2, .int x5)] [.int x19]
          refine v_if_eq (pc := 49) (tgt := 56) hX dX11_spanTwo_49 (by decide) (fun h20 => ?_) (fun h20 => ?_)
          · have h := if_t h h20
            refine v_iconst (pc := 56) hX dX11_spanTwo_56 ic_0 ?_
            exact v_sub [0, 2] rfl (K8 0 h)
          · have h := if_f h h20
            exact v_sub [0, 2] rfl (K12 () h)
    )
    obtain ⟨x22, h24, h⟩ := b1_e h
    refine v_sub [2, 1, 0] rfl ?_
    refine L21 1000 _ _ h24 ?_
    show VV X 3 ad cs M 64 [(1, .int x22)] []
    refine v_iload_n (pc := 64) 0 hX dX11_spanTwo_64 rfl ?_
    refine v_if_ne (pc := 65) (tgt := 72) hX dX11_spanTwo_65 (by decide) (fun h23 => ?_) (fun h23 => ?_)
    · have h := if_f h h23
      refine v_iconst (pc := 72) hX dX11_spanTwo_72 ic_0 ?_
      obtain rfl := Option.some.inj h
      exact v_zret (pc := 73) hX hR (Or.inl rfl) dX11_spanTwo_73
    · have h := if_t h h23
      refine v_iconst (pc := 68) hX dX11_spanTwo_68 ic_1 ?_
      refine v_goto (pc := 69) (tgt := 73) hX dX11_spanTwo_69 (by decide) ?_
      obtain rfl := Option.some.inj h
      exact v_zret (pc := 73) hX hR (Or.inr rfl) dX11_spanTwo_73
  refine v_if_ne (pc := 6) (tgt := 13) hX dX11_spanTwo_6 (by decide) (fun h25 => ?_) (fun h25 => ?_)
  · have h := if_f h h25
    refine v_iconst (pc := 13) hX dX11_spanTwo_13 ic_0 ?_
    exact v_sub [0] rfl (K2 0 h)
  · have h := if_t h h25
    refine v_iconst (pc := 9) hX dX11_spanTwo_9 ic_1 ?_
    refine v_goto (pc := 10) (tgt := 14) hX dX11_spanTwo_10 (by decide) ?_
    exact v_sub [0] rfl (K2 1 h)
set_option maxHeartbeats 4000000 in
set_option maxRecDepth 100000 in
theorem c_X11_spans {ad : Nat → Nat} {cs : List Nat} (hcs : ∀ k, 95 ≤ k → k < 97 → k ∈ cs) (M : Mm) (q : Int32) (h : fX11_spans M = some q) : CT ad cs yX11_spans cX11_spans 2 (some .int) 4 98 [.ref (ad 95)] M (some (.int q)) M := by
  refine CT.of RX11 (by decide +kernel) rfl (Nat.le_of_ble_eq_true rfl) (fun X hX hR => ?_)
  unfold fX11_spans at h
  show VV X 2 ad cs M 0 [(0, .ref (ad 95))] []
  refine v_aload_n (pc := 0) 0 hX dX11_spans_0 rfl ?_
  refine v_getR (pc := 1) (t := 96) hX (hcs 95 (Nat.le_of_ble_eq_true rfl) (Nat.le_of_ble_eq_true rfl)) sh_95 fl_11_7 rfl dX11_spans_1 ?_
  refine v_iconst (pc := 4) hX dX11_spans_4 ic_0 ?_
  refine v_iald (pc := 5) hX (hcs 96 (Nat.le_of_ble_eq_true rfl) (Nat.le_of_ble_eq_true rfl)) sh_96 (ib_0 (by decide)) ix_0 dX11_spans_5 ?_
  refine v_iconst (pc := 6) hX dX11_spans_6 ic_1 ?_
  refine v_icmp_ne (pc := 7) (tgt := 28) hX dX11_spans_7 (by decide) (fun h1 => ?_) (fun h1 => ?_)
  · have h := if_f h h1
    refine v_aload_n (pc := 28) 0 hX dX11_spans_28 rfl ?_
    refine v_getR (pc := 29) (t := 96) hX (hcs 95 (Nat.le_of_ble_eq_true rfl) (Nat.le_of_ble_eq_true rfl)) sh_95 fl_11_7 rfl dX11_spans_29 ?_
    refine v_iconst (pc := 32) hX dX11_spans_32 ic_0 ?_
    refine v_iald (pc := 33) hX (hcs 96 (Nat.le_of_ble_eq_true rfl) (Nat.le_of_ble_eq_true rfl)) sh_96 (ib_0 (by decide)) ix_0 dX11_spans_33 ?_
    refine v_iconst (pc := 34) hX dX11_spans_34 ic_2 ?_
    refine v_icmp_ne (pc := 35) (tgt := 45) hX dX11_spans_35 (by decide) (fun h2 => ?_) (fun h2 => ?_)
    · have h := if_f h h2
      refine v_aload_n (pc := 45) 0 hX dX11_spans_45 rfl ?_
      obtain ⟨x4, h3, h⟩ := b1_e h
      refine v_callV (pc := 46) [] (some (.int x4)) M hX cv_11_164 (c_X11_spanThree (sub_cs hcs (Nat.le_of_ble_eq_true rfl) (Nat.le_of_ble_eq_true rfl)) M x4 h3) (hcs 95 (Nat.le_of_ble_eq_true rfl) (Nat.le_of_ble_eq_true rfl)) sh_95 rfl rfl rfl ⟨Nat.le_of_ble_eq_true rfl, Nat.le_of_ble_eq_true rfl⟩ (Nat.le_of_ble_eq_true rfl) dX11_spans_46 ?_
      show VV X 2 ad cs M 49 [(0, .ref (ad 95))] [.int x4]
      refine v_istore_n (pc := 49) [(1, .int x4), (0, .ref (ad 95))] hX dX11_spans_49 (by decide) rfl ?_
      refine v_iload_n (pc := 50) 0 hX dX11_spans_50 rfl ?_
      refine v_if_eq (pc := 51) (tgt := 58) hX dX11_spans_51 (by decide) (fun h5 => ?_) (fun h5 => ?_)
      · have h := if_t h h5
        refine v_iconst (pc := 58) hX dX11_spans_58 ic_0 ?_
        obtain rfl := Option.some.inj h
        exact v_iret (pc := 59) hX hR dX11_spans_59
      · have h := if_f h h5
        refine v_iconst (pc := 54) hX dX11_spans_54 ic_1 ?_
        refine v_goto (pc := 55) (tgt := 59) hX dX11_spans_55 (by decide) ?_
        obtain rfl := Option.some.inj h
        exact v_iret (pc := 59) hX hR dX11_spans_59
    · have h := if_t h h2
      refine v_aload_n (pc := 38) 0 hX dX11_spans_38 rfl ?_
      obtain ⟨x7, h6, h⟩ := b1_e h
      refine v_callV (pc := 39) [] (some (.int x7)) M hX cv_11_161 (c_X11_spanTwo (sub_cs hcs (Nat.le_of_ble_eq_true rfl) (Nat.le_of_ble_eq_true rfl)) M x7 h6) (hcs 95 (Nat.le_of_ble_eq_true rfl) (Nat.le_of_ble_eq_true rfl)) sh_95 rfl rfl rfl ⟨Nat.le_of_ble_eq_true rfl, Nat.le_of_ble_eq_true rfl⟩ (Nat.le_of_ble_eq_true rfl) dX11_spans_39 ?_
      show VV X 2 ad cs M 42 [(0, .ref (ad 95))] [.int x7]
      refine v_goto (pc := 42) (tgt := 49) hX dX11_spans_42 (by decide) ?_
      refine v_istore_n (pc := 49) [(1, .int x7), (0, .ref (ad 95))] hX dX11_spans_49 (by decide) rfl ?_
      refine v_iload_n (pc := 50) 0 hX dX11_spans_50 rfl ?_
      refine v_if_eq (pc := 51) (tgt := 58) hX dX11_spans_51 (by decide) (fun h8 => ?_) (fun h8 => ?_)
      · have h := if_t h h8
        refine v_iconst (pc := 58) hX dX11_spans_58 ic_0 ?_
        obtain rfl := Option.some.inj h
        exact v_iret (pc := 59) hX hR dX11_spans_59
      · have h := if_f h h8
        refine v_iconst (pc := 54) hX dX11_spans_54 ic_1 ?_
        refine v_goto (pc := 55) (tgt := 59) hX dX11_spans_55 (by decide) ?_
        obtain rfl := Option.some.inj h
        exact v_iret (pc := 59) hX hR dX11_spans_59
  · have h := if_t h h1
    refine v_aload_n (pc := 10) 0 hX dX11_spans_10 rfl ?_
    refine v_iconst (pc := 11) hX dX11_spans_11 ic_1 ?_
    refine v_iconst (pc := 12) hX dX11_spans_12 ic_0 ?_
    refine v_iconst (pc := 13) hX dX11_spans_13 ic_0 ?_
    obtain ⟨x10, h9, h⟩ := b1_e h
    refine v_callV (pc := 14) [.int 1, .int 0, .int 0] (some (.int x10)) M hX cv_11_158 (c_X11_isBarredBoth (sub_cs hcs (Nat.le_of_ble_eq_true rfl) (Nat.le_of_ble_eq_true rfl)) M 1 0 0 x10 h9) (hcs 95 (Nat.le_of_ble_eq_true rfl) (Nat.le_of_ble_eq_true rfl)) sh_95 rfl rfl rfl ⟨Nat.le_of_ble_eq_true rfl, Nat.le_of_ble_eq_true rfl⟩ (Nat.le_of_ble_eq_true rfl) dX11_spans_14 ?_
    show VV X 2 ad cs M 17 [(0, .ref (ad 95))] [.int x10]
    refine v_if_ne (pc := 17) (tgt := 24) hX dX11_spans_17 (by decide) (fun h11 => ?_) (fun h11 => ?_)
    · have h := if_f h h11
      refine v_iconst (pc := 24) hX dX11_spans_24 ic_0 ?_
      refine v_goto (pc := 25) (tgt := 49) hX dX11_spans_25 (by decide) ?_
      refine v_istore_n (pc := 49) [(1, .int 0), (0, .ref (ad 95))] hX dX11_spans_49 (by decide) rfl ?_
      refine v_iload_n (pc := 50) 0 hX dX11_spans_50 rfl ?_
      refine v_if_eq (pc := 51) (tgt := 58) hX dX11_spans_51 (by decide) (fun h12 => ?_) (fun h12 => ?_)
      · have h := if_t h h12
        refine v_iconst (pc := 58) hX dX11_spans_58 ic_0 ?_
        obtain rfl := Option.some.inj h
        exact v_iret (pc := 59) hX hR dX11_spans_59
      · have h := if_f h h12
        refine v_iconst (pc := 54) hX dX11_spans_54 ic_1 ?_
        refine v_goto (pc := 55) (tgt := 59) hX dX11_spans_55 (by decide) ?_
        obtain rfl := Option.some.inj h
        exact v_iret (pc := 59) hX hR dX11_spans_59
    · have h := if_t h h11
      refine v_iconst (pc := 20) hX dX11_spans_20 ic_1 ?_
      refine v_goto (pc := 21) (tgt := 49) hX dX11_spans_21 (by decide) ?_
      refine v_istore_n (pc := 49) [(1, .int 1), (0, .ref (ad 95))] hX dX11_spans_49 (by decide) rfl ?_
      refine v_iload_n (pc := 50) 0 hX dX11_spans_50 rfl ?_
      refine v_if_eq (pc := 51) (tgt := 58) hX dX11_spans_51 (by decide) (fun h13 => ?_) (fun h13 => ?_)
      · have h := if_t h h13
        refine v_iconst (pc := 58) hX dX11_spans_58 ic_0 ?_
        obtain rfl := Option.some.inj h
        exact v_iret (pc := 59) hX hR dX11_spans_59
      · have h := if_f h h13
        refine v_iconst (pc := 54) hX dX11_spans_54 ic_1 ?_
        refine v_goto (pc := 55) (tgt := 59) hX dX11_spans_55 (by decide) ?_
        obtain rfl := Option.some.inj h
        exact v_iret (pc := 59) hX hR dX11_spans_59
set_option maxHeartbeats 4000000 in
set_option maxRecDepth 100000 in
theorem c_X11_stuck {ad : Nat → Nat} {cs : List Nat} (hcs : ∀ k, 95 ≤ k → k < 97 → k ∈ cs) (M : Mm) (w1 : Int32) (q : Int32) (h : fX11_stuck M w1 = some q) : CT ad cs yX11_stuck cX11_stuck 4 (some .int) 3 76 [.ref (ad 95), .int w1] M (some (.int q)) M := by
  refine CT.of RX11 (by decide +kernel) rfl (Nat.le_of_ble_eq_true rfl) (fun X hX hR => ?_)
  unfold fX11_stuck at h
  show VV X 4 ad cs M 0 [(0, .ref (ad 95)), (1, .int w1)] []
  refine v_iload_n (pc := 0) 1 hX dX11_stuck_0 rfl ?_
  refine v_iconst (pc := 1) hX dX11_stuck_1 ic_0 ?_
  refine v_iconst (pc := 2) hX dX11_stuck_2 ic_4 ?_
  obtain ⟨x2, h1, h⟩ := b1_e h
  refine v_callS (pc := 3) [.int w1, .int 0, .int 4] (some (.int x2)) M hX cv_11_48 (c_X11_in M w1 0 4 x2 h1) rfl rfl ⟨Nat.le_of_ble_eq_true rfl, Nat.le_of_ble_eq_true rfl⟩ (Nat.le_of_ble_eq_true rfl) dX11_stuck_3 ?_
  show VV X 4 ad cs M 6 [(0, .ref (ad 95)), (1, .int w1)] [.int x2]
  refine v_if_ne (pc := 6) (tgt := 12) hX dX11_stuck_6 (by decide) (fun h3 => ?_) (fun h3 => ?_)
  · have h := if_f h h3
    refine v_aload_n (pc := 12) 0 hX dX11_stuck_12 rfl ?_
    obtain ⟨x5, h4, h⟩ := b1_e h
    refine v_callV (pc := 13) [] (some (.int x5)) M hX cv_11_91 (c_X11_isHereAllowed (sub_cs hcs (Nat.le_of_ble_eq_true rfl) (Nat.le_of_ble_eq_true rfl)) M x5 h4) (hcs 95 (Nat.le_of_ble_eq_true rfl) (Nat.le_of_ble_eq_true rfl)) sh_95 rfl rfl rfl ⟨Nat.le_of_ble_eq_true rfl, Nat.le_of_ble_eq_true rfl⟩ (Nat.le_of_ble_eq_true rfl) dX11_stuck_13 ?_
    show VV X 4 ad cs M 16 [(0, .ref (ad 95)), (1, .int w1)] [.int x5]
    refine v_if_ne (pc := 16) (tgt := 22) hX dX11_stuck_16 (by decide) (fun h6 => ?_) (fun h6 => ?_)
    · have h := if_f h h6
      refine v_iconst (pc := 22) hX dX11_stuck_22 ic_1 ?_
      refine v_istore_n (pc := 23) [(2, .int 1), (0, .ref (ad 95)), (1, .int w1)] hX dX11_stuck_23 (by decide) rfl ?_
      refine v_iconst (pc := 24) hX dX11_stuck_24 ic_0 ?_
      refine v_istore_n (pc := 25) [(3, .int 0), (2, .int 1), (0, .ref (ad 95)), (1, .int w1)] hX dX11_stuck_25 (by decide) rfl ?_
      have L27 := v_itr (fX11_stuck_L26 M w1) (fun z => VV X 4 ad cs M 26 [(0, .ref (ad 95)), (1, .int w1), (2, .int z.1), (3, .int z.2)] []) (fun z => VV X 4 ad cs M 80 [(2, .int z)] []) (by
        rintro ⟨x7, x8⟩ q h hK
        unfold fX11_stuck_L26 at h
        have h := u2_b h
        show VV X 4 ad cs M 26 [(0, .ref (ad 95)), (1, .int w1), (2, .int x7), (3, .int x8)] []
        refine v_iload_n (pc := 26) 3 hX dX11_stuck_26 rfl ?_
        refine v_aload_n (pc := 27) 0 hX dX11_stuck_27 rfl ?_
        refine v_getR (pc := 28) (t := 96) hX (hcs 95 (Nat.le_of_ble_eq_true rfl) (Nat.le_of_ble_eq_true rfl)) sh_95 fl_11_7 rfl dX11_stuck_28 ?_
        refine v_iconst (pc := 31) hX dX11_stuck_31 ic_2 ?_
        refine v_iald (pc := 32) hX (hcs 96 (Nat.le_of_ble_eq_true rfl) (Nat.le_of_ble_eq_true rfl)) sh_96 (ib_2 (by decide)) ix_2 dX11_stuck_32 ?_
        refine v_icmp_ge (pc := 33) (tgt := 80) hX dX11_stuck_33 (by decide) (fun h9 => ?_) (fun h9 => ?_)
        · have h := if_t h h9
          obtain rfl := Option.some.inj h
          exact v_sub [2] rfl hK
        · have h := if_f h h9
          refine v_iload_n (pc := 36) 2 hX dX11_stuck_36 rfl ?_
          obtain ⟨k10, ek10, h⟩ := bd_e h
          have K11 : ∀ (x12 : Int32), k10 x12 = some q → VV X 4 ad cs M 73 [(0, .ref (ad 95)), (1, .int w1), (3, .int x8)] [.int x12] := by
            intro x12 h
            subst ek10
            refine v_istore_n (pc := 73) [(2, .int x12), (0, .ref (ad 95)), (1, .int w1), (3, .int x8)] hX dX11_stuck_73 (by decide) rfl ?_
            obtain ⟨x13, ex13, h⟩ := bd_e h
            refine v_iinc (v := x13) (pc := 74) 3 [(3, .int x13), (2, .int x12), (0, .ref (ad 95)), (1, .int w1)] hX dX11_stuck_74 rfl (ex13.trans (by rw [ic_1])) (by decide) rfl ?_
            refine v_goto (pc := 77) (tgt := 26) hX dX11_stuck_77 (by decide) ?_
            obtain rfl := Option.some.inj h
            exact v_sub [2, 3, 1, 0] rfl hK
          obtain ⟨k14, ek14, h⟩ := bd_e h
          have K15 : ∀ (_ : Unit), k14 () = some q → VV X 4 ad cs M 72 [(0, .ref (ad 95)), (1, .int w1), (3, .int x8)] [] := by
            intro _ h
            subst ek14
            refine v_iconst (pc := 72) hX dX11_stuck_72 ic_0 ?_
            exact v_sub [0, 1, 2] rfl (K11 0 h)
          refine v_if_eq (pc := 37) (tgt := 72) hX dX11_stuck_37 (by decide) (fun h16 => ?_) (fun h16 => ?_)
          · have h := if_t h h16
            exact v_sub [0, 1, 3] rfl (K15 () h)
          · have h := if_f h h16
            refine v_aload_n (pc := 40) 0 hX dX11_stuck_40 rfl ?_
            refine v_iload_n (pc := 41) 3 hX dX11_stuck_41 rfl ?_
            refine v_iconst (pc := 42) hX dX11_stuck_42 ic_1 ?_
            refine v_iload_n (pc := 43) 1 hX dX11_stuck_43 rfl ?_
            refine v_ishl (pc := 44) hX dX11_stuck_44 ?_
            obtain ⟨x18, h17, h⟩ := b1_e h
            refine v_callV (pc := 45) [.int x8, .int (1 <<< (w1 &&& 31))] (some (.int x18)) M hX cv_11_124 (c_X11_isTrialAllowed (sub_cs hcs (Nat.le_of_ble_eq_true rfl) (Nat.le_of_ble_eq_true rfl)) M x8 (1 <<< (w1 &&& 31)) x18 h17) (hcs 95 (Nat.le_of_ble_eq_true rfl) (Nat.le_of_ble_eq_true rfl)) sh_95 rfl rfl rfl ⟨Nat.le_of_ble_eq_true rfl, Nat.le_of_ble_eq_true rfl⟩ (Nat.le_of_ble_eq_true rfl) dX11_stuck_45 ?_
            show VV X 4 ad cs M 48 [(0, .ref (ad 95)), (1, .int w1), (2, .int x7), (3, .int x8)] [.int x18]
            obtain ⟨k19, ek19, h⟩ := bd_e h
            have K20 : ∀ (_ : Unit), k19 () = some q → VV X 4 ad cs M 68 [(0, .ref (ad 95)), (1, .int w1), (3, .int x8)] [] := by
              intro _ h
              subst ek19
              refine v_iconst (pc := 68) hX dX11_stuck_68 ic_1 ?_
              refine v_goto (pc := 69) (tgt := 73) hX dX11_stuck_69 (by decide) ?_
              exact v_sub [0, 1, 2] rfl (K11 1 h)
            refine v_if_eq (pc := 48) (tgt := 68) hX dX11_stuck_48 (by decide) (fun h21 => ?_) (fun h21 => ?_)
            · have h := if_t h h21
              exact v_sub [0, 1, 3] rfl (K20 () h)
            · have h := if_f h h21
              refine v_aload_n (pc := 51) 0 hX dX11_stuck_51 rfl ?_
              refine v_iload_n (pc := 52) 3 hX dX11_stuck_52 rfl ?_
              refine v_iconst (pc := 53) hX dX11_stuck_53 ic_1 ?_
              refine v_iload_n (pc := 54) 1 hX dX11_stuck_54 rfl ?_
              refine v_ishl (pc := 55) hX dX11_stuck_55 ?_
              refine v_iconst (pc := 56) hX dX11_stuck_56 ic_0 ?_
              obtain ⟨y23, h22, h⟩ := b1_e h
              refine v_callV (pc := 57) [.int x8, .int (1 <<< (w1 &&& 31)), .int 0] (some (.long y23)) M hX cv_11_117 (c_X11_trialValue (sub_cs hcs (Nat.le_of_ble_eq_true rfl) (Nat.le_of_ble_eq_true rfl)) M x8 (1 <<< (w1 &&& 31)) 0 y23 h22) (hcs 95 (Nat.le_of_ble_eq_true rfl) (Nat.le_of_ble_eq_true rfl)) sh_95 rfl rfl rfl ⟨Nat.le_of_ble_eq_true rfl, Nat.le_of_ble_eq_true rfl⟩ (Nat.le_of_ble_eq_true rfl) dX11_stuck_57 ?_
              show VV X 4 ad cs M 60 [(0, .ref (ad 95)), (1, .int w1), (2, .int x7), (3, .int x8)] [.long y23]
              refine v_aload_n (pc := 60) 0 hX dX11_stuck_60 rfl ?_
              obtain ⟨y25, h24, h⟩ := b1_e h
              refine v_callV (pc := 61) [] (some (.long y25)) M hX cv_11_137 (c_X11_valueHere (sub_cs hcs (Nat.le_of_ble_eq_true rfl) (Nat.le_of_ble_eq_true rfl)) M y25 h24) (hcs 95 (Nat.le_of_ble_eq_true rfl) (Nat.le_of_ble_eq_true rfl)) sh_95 rfl rfl rfl ⟨Nat.le_of_ble_eq_true rfl, Nat.le_of_ble_eq_true rfl⟩ (Nat.le_of_ble_eq_true rfl) dX11_stuck_61 ?_
              show VV X 4 ad cs M 64 [(0, .ref (ad 95)), (1, .int w1), (2, .int x7), (3, .int x8)] [.long y25, .long y23]
              refine v_lcmp (pc := 64) hX dX11_stuck_64 ?_
              refine v_if_lt (pc := 65) (tgt := 72) hX dX11_stuck_65 (by decide) (fun h26 => ?_) (fun h26 => ?_)
              · have h := if_t h h26
                exact v_sub [0, 1, 3] rfl (K15 () h)
              · have h := if_f h h26
                exact v_sub [0, 1, 3] rfl (K20 () h)
      )
      obtain ⟨x28, h30, h⟩ := b1_e h
      refine v_sub [2, 3, 1, 0] rfl ?_
      refine L27 1000 _ _ h30 ?_
      show VV X 4 ad cs M 80 [(2, .int x28)] []
      refine v_iload_n (pc := 80) 0 hX dX11_stuck_80 rfl ?_
      refine v_if_eq (pc := 81) (tgt := 88) hX dX11_stuck_81 (by decide) (fun h29 => ?_) (fun h29 => ?_)
      · have h := if_t h h29
        refine v_iconst (pc := 88) hX dX11_stuck_88 ic_0 ?_
        obtain rfl := Option.some.inj h
        exact v_iret (pc := 89) hX hR dX11_stuck_89
      · have h := if_f h h29
        refine v_iconst (pc := 84) hX dX11_stuck_84 ic_1 ?_
        refine v_goto (pc := 85) (tgt := 89) hX dX11_stuck_85 (by decide) ?_
        obtain rfl := Option.some.inj h
        exact v_iret (pc := 89) hX hR dX11_stuck_89
    · have h := if_t h h6
      refine v_ldc (pc := 19) hX kc_11_40 dX11_stuck_19 ?_
      obtain rfl := Option.some.inj h
      exact v_iret (pc := 21) hX hR dX11_stuck_21
  · have h := if_t h h3
    refine v_ldc (pc := 9) hX kc_11_70 dX11_stuck_9 ?_
    obtain rfl := Option.some.inj h
    exact v_iret (pc := 11) hX hR dX11_stuck_11
set_option maxHeartbeats 4000000 in
set_option maxRecDepth 100000 in
theorem c_X11_layAround {ad : Nat → Nat} {cs : List Nat} (hcs : ∀ k, 95 ≤ k → k < 102 → k ∈ cs) (M : Mm) (w1 : Int32) (q : Mm) (h : fX11_layAround M w1 = some q) : CT ad cs yX11_layAround cX11_layAround 14 none 2 53 [.ref (ad 95), .int w1] M none q := by
  refine CT.of RX11 (by decide +kernel) rfl (Nat.le_of_ble_eq_true rfl) (fun X hX hR => ?_)
  unfold fX11_layAround at h
  show VV X 14 ad cs M 0 [(0, .ref (ad 95)), (1, .int w1)] []
  refine v_iconst (pc := 0) hX dX11_layAround_0 ic_1 ?_
  refine v_aload_n (pc := 1) 0 hX dX11_layAround_1 rfl ?_
  refine v_getR (pc := 2) (t := 96) hX (hcs 95 (Nat.le_of_ble_eq_true rfl) (Nat.le_of_ble_eq_true rfl)) sh_95 fl_11_7 rfl dX11_layAround_2 ?_
  refine v_iconst (pc := 5) hX dX11_layAround_5 ic_3 ?_
  refine v_iald (pc := 6) hX (hcs 96 (Nat.le_of_ble_eq_true rfl) (Nat.le_of_ble_eq_true rfl)) sh_96 (ib_3 (by decide)) ix_3 dX11_layAround_6 ?_
  refine v_ishl (pc := 7) hX dX11_layAround_7 ?_
  obtain ⟨x1, ex1, h⟩ := bd_e h
  refine v_top ex1 ?_
  refine v_istore_n (pc := 8) [(2, .int x1), (0, .ref (ad 95)), (1, .int w1)] hX dX11_layAround_8 (by decide) rfl ?_
  refine v_aload_n (pc := 9) 1 hX dX11_layAround_9 rfl ?_
  refine v_getR (pc := 10) (t := 96) hX (hcs 95 (Nat.le_of_ble_eq_true rfl) (Nat.le_of_ble_eq_true rfl)) sh_95 fl_11_7 rfl dX11_layAround_10 ?_
  refine v_iconst (pc := 13) hX dX11_layAround_13 ic_0 ?_
  refine v_iald (pc := 14) hX (hcs 96 (Nat.le_of_ble_eq_true rfl) (Nat.le_of_ble_eq_true rfl)) sh_96 (ib_0 (by decide)) ix_0 dX11_layAround_14 ?_
  refine v_iconst (pc := 15) hX dX11_layAround_15 ic_1 ?_
  obtain ⟨k2, ek2, h⟩ := bd_e h
  have K3 : ∀ (x4 : Int32), k2 x4 = some q → VV X 14 ad cs M 24 [(0, .ref (ad 95)), (1, .int w1), (2, .int x1)] [.int x4] := by
    intro x4 h
    subst ek2
    refine v_istore_n (pc := 24) [(3, .int x4), (0, .ref (ad 95)), (1, .int w1), (2, .int x1)] hX dX11_layAround_24 (by decide) rfl ?_
    refine v_aload_n (pc := 25) 1 hX dX11_layAround_25 rfl ?_
    refine v_getR (pc := 26) (t := 96) hX (hcs 95 (Nat.le_of_ble_eq_true rfl) (Nat.le_of_ble_eq_true rfl)) sh_95 fl_11_7 rfl dX11_layAround_26 ?_
    refine v_iconst (pc := 29) hX dX11_layAround_29 ic_0 ?_
    refine v_iald (pc := 30) hX (hcs 96 (Nat.le_of_ble_eq_true rfl) (Nat.le_of_ble_eq_true rfl)) sh_96 (ib_0 (by decide)) ix_0 dX11_layAround_30 ?_
    refine v_iconst (pc := 31) hX dX11_layAround_31 ic_2 ?_
    obtain ⟨k5, ek5, h⟩ := bd_e h
    have K6 : ∀ (x7 : Int32), k5 x7 = some q → VV X 14 ad cs M 40 [(0, .ref (ad 95)), (1, .int w1), (2, .int x1), (3, .int x4)] [.int x7] := by
      intro x7 h
      subst ek5
      refine v_istore (pc := 40) [(4, .int x7), (0, .ref (ad 95)), (1, .int w1), (2, .int x1), (3, .int x4)] hX dX11_layAround_40 (by decide) rfl ?_
      refine v_lconst (v := 0) (pc := 42) hX dX11_layAround_42 (by decide) ?_
      refine v_lstore (pc := 43) [(5, .long 0), (4, .int x7), (0, .ref (ad 95)), (1, .int w1), (2, .int x1), (3, .int x4)] hX dX11_layAround_43 (by decide) rfl ?_
      refine v_iconst (pc := 45) hX dX11_layAround_45 ic_0 ?_
      refine v_istore (pc := 46) [(7, .int 0), (5, .long 0), (4, .int x7), (0, .ref (ad 95)), (1, .int w1), (2, .int x1), (3, .int x4)] hX dX11_layAround_46 (by decide) rfl ?_
      refine v_iload_n (pc := 48) 4 hX dX11_layAround_48 rfl ?_
      refine v_ineg (pc := 49) hX dX11_layAround_49 ?_
      obtain ⟨x8, ex8, h⟩ := bd_e h
      refine v_top ex8 ?_
      refine v_istore (pc := 50) [(8, .int x8), (7, .int 0), (5, .long 0), (4, .int x7), (0, .ref (ad 95)), (1, .int w1), (2, .int x1), (3, .int x4)] hX dX11_layAround_50 (by decide) rfl ?_
      have L61 := v_itr (fX11_layAround_L52 w1 x4 x7 x1) (fun z => VV X 14 ad cs z.2.2.2 52 [(0, .ref (ad 95)), (1, .int w1), (2, .int x1), (3, .int x4), (4, .int x7), (5, .long z.1), (7, .int z.2.1), (8, .int z.2.2.1)] []) (fun z => VV X 14 ad cs z 215 [] []) (by
        rintro ⟨y9, x10, x11, M12⟩ q h hK
        unfold fX11_layAround_L52 at h
        have h := u4_b h
        show VV X 14 ad cs M12 52 [(0, .ref (ad 95)), (1, .int w1), (2, .int x1), (3, .int x4), (4, .int x7), (5, .long y9), (7, .int x10), (8, .int x11)] []
        refine v_iload (pc := 52) 7 hX dX11_layAround_52 rfl ?_
        refine v_iload_n (pc := 54) 1 hX dX11_layAround_54 rfl ?_
        refine v_icmp_gt (pc := 55) (tgt := 215) hX dX11_layAround_55 (by decide) (fun h13 => ?_) (fun h13 => ?_)
        · have h := if_t h h13
          obtain rfl := Option.some.inj h
          exact v_sub [] rfl hK
        · have h := if_f h h13
          refine v_iload_n (pc := 58) 3 hX dX11_layAround_58 rfl ?_
          refine v_ineg (pc := 59) hX dX11_layAround_59 ?_
          obtain ⟨x14, ex14, h⟩ := bd_e h
          refine v_top ex14 ?_
          refine v_istore (pc := 60) [(9, .int x14), (0, .ref (ad 95)), (1, .int w1), (2, .int x1), (3, .int x4), (4, .int x7), (5, .long y9), (7, .int x10), (8, .int x11)] hX dX11_layAround_60 (by decide) rfl ?_
          have L55 := v_itr (fX11_layAround_L62 x4 x7 x1 x11) (fun z => VV X 14 ad cs z.2.2.2 62 [(0, .ref (ad 95)), (1, .int w1), (2, .int x1), (3, .int x4), (4, .int x7), (5, .long z.1), (7, .int z.2.1), (8, .int x11), (9, .int z.2.2.1)] []) (fun z => VV X 14 ad cs z.2.2 209 [(0, .ref (ad 95)), (1, .int w1), (2, .int x1), (3, .int x4), (4, .int x7), (5, .long z.1), (7, .int z.2.1), (8, .int x11)] []) (by
            rintro ⟨y15, x16, x17, M18⟩ q h hK
            unfold fX11_layAround_L62 at h
            have h := u4_b h
            show VV X 14 ad cs M18 62 [(0, .ref (ad 95)), (1, .int w1), (2, .int x1), (3, .int x4), (4, .int x7), (5, .long y15), (7, .int x16), (8, .int x11), (9, .int x17)] []
            refine v_iload (pc := 62) 8 hX dX11_layAround_62 rfl ?_
            refine v_iload_n (pc := 64) 3 hX dX11_layAround_64 rfl ?_
            refine v_icmp_gt (pc := 65) (tgt := 209) hX dX11_layAround_65 (by decide) (fun h19 => ?_) (fun h19 => ?_)
            · have h := if_t h h19
              obtain rfl := Option.some.inj h
              exact v_sub [0, 1, 2, 3, 4, 5, 6, 7] rfl hK
            · have h := if_f h h19
              refine v_iload (pc := 68) 4 hX dX11_layAround_68 rfl ?_
              refine v_ineg (pc := 70) hX dX11_layAround_70 ?_
              obtain ⟨x20, ex20, h⟩ := bd_e h
              refine v_top ex20 ?_
              refine v_istore (pc := 71) [(10, .int x20), (0, .ref (ad 95)), (1, .int w1), (2, .int x1), (3, .int x4), (4, .int x7), (5, .long y15), (7, .int x16), (8, .int x11), (9, .int x17)] hX dX11_layAround_71 (by decide) rfl ?_
              have L49 := v_itr (fX11_layAround_L73 x7 x1 x11 x17) (fun z => VV X 14 ad cs z.2.2.2 73 [(0, .ref (ad 95)), (1, .int w1), (2, .int x1), (3, .int x4), (4, .int x7), (5, .long z.1), (7, .int z.2.1), (8, .int x11), (9, .int x17), (10, .int z.2.2.1)] []) (fun z => VV X 14 ad cs z.2.2 203 [(0, .ref (ad 95)), (1, .int w1), (2, .int x1), (3, .int x4), (4, .int x7), (5, .long z.1), (7, .int z.2.1), (8, .int x11), (9, .int x17)] []) (by
                rintro ⟨y21, x22, x23, M24⟩ q h hK
                unfold fX11_layAround_L73 at h
                have h := u4_b h
                show VV X 14 ad cs M24 73 [(0, .ref (ad 95)), (1, .int w1), (2, .int x1), (3, .int x4), (4, .int x7), (5, .long y21), (7, .int x22), (8, .int x11), (9, .int x17), (10, .int x23)] []
                refine v_iload (pc := 73) 9 hX dX11_layAround_73 rfl ?_
                refine v_iload (pc := 75) 4 hX dX11_layAround_75 rfl ?_
                refine v_icmp_gt (pc := 77) (tgt := 203) hX dX11_layAround_77 (by decide) (fun h25 => ?_) (fun h25 => ?_)
                · have h := if_t h h25
                  obtain rfl := Option.some.inj h
                  exact v_sub [0, 1, 2, 3, 4, 5, 6, 7, 8] rfl hK
                · have h := if_f h h25
                  refine v_aload_n (pc := 80) 0 hX dX11_layAround_80 rfl ?_
                  refine v_getR (pc := 81) (t := 96) hX (hcs 95 (Nat.le_of_ble_eq_true rfl) (Nat.le_of_ble_eq_true rfl)) sh_95 fl_11_7 rfl dX11_layAround_81 ?_
                  refine v_bipush (pc := 84) hX dX11_layAround_84 bp_18 ?_
                  refine v_iald (pc := 86) hX (hcs 96 (Nat.le_of_ble_eq_true rfl) (Nat.le_of_ble_eq_true rfl)) sh_96 (ib_18 (by decide)) ix_18 dX11_layAround_86 ?_
                  refine v_iload_n (pc := 87) 2 hX dX11_layAround_87 rfl ?_
                  refine v_iload (pc := 88) 7 hX dX11_layAround_88 rfl ?_
                  refine v_imul (pc := 90) hX dX11_layAround_90 ?_
                  refine v_iadd (pc := 91) hX dX11_layAround_91 ?_
                  obtain ⟨x26, ex26, h⟩ := bd_e h
                  refine v_top ex26 ?_
                  refine v_istore (pc := 92) [(11, .int x26), (0, .ref (ad 95)), (1, .int w1), (2, .int x1), (3, .int x4), (4, .int x7), (5, .long y21), (7, .int x22), (8, .int x11), (9, .int x17), (10, .int x23)] hX dX11_layAround_92 (by decide) rfl ?_
                  refine v_aload_n (pc := 94) 1 hX dX11_layAround_94 rfl ?_
                  refine v_getR (pc := 95) (t := 96) hX (hcs 95 (Nat.le_of_ble_eq_true rfl) (Nat.le_of_ble_eq_true rfl)) sh_95 fl_11_7 rfl dX11_layAround_95 ?_
                  refine v_bipush (pc := 98) hX dX11_layAround_98 bp_19 ?_
                  refine v_iald (pc := 100) hX (hcs 96 (Nat.le_of_ble_eq_true rfl) (Nat.le_of_ble_eq_true rfl)) sh_96 (ib_19 (by decide)) ix_19 dX11_layAround_100 ?_
                  refine v_iload_n (pc := 101) 3 hX dX11_layAround_101 rfl ?_
                  refine v_iload (pc := 102) 9 hX dX11_layAround_102 rfl ?_
                  refine v_imul (pc := 104) hX dX11_layAround_104 ?_
                  refine v_iadd (pc := 105) hX dX11_layAround_105 ?_
                  obtain ⟨x27, ex27, h⟩ := bd_e h
                  refine v_top ex27 ?_
                  refine v_istore (pc := 106) [(12, .int x27), (11, .int x26), (0, .ref (ad 95)), (1, .int w1), (2, .int x1), (3, .int x4), (4, .int x7), (5, .long y21), (7, .int x22), (8, .int x11), (9, .int x17), (10, .int x23)] hX dX11_layAround_106 (by decide) rfl ?_
                  refine v_aload_n (pc := 108) 2 hX dX11_layAround_108 rfl ?_
                  refine v_getR (pc := 109) (t := 96) hX (hcs 95 (Nat.le_of_ble_eq_true rfl) (Nat.le_of_ble_eq_true rfl)) sh_95 fl_11_7 rfl dX11_layAround_109 ?_
                  refine v_bipush (pc := 112) hX dX11_layAround_112 bp_20 ?_
                  refine v_iald (pc := 114) hX (hcs 96 (Nat.le_of_ble_eq_true rfl) (Nat.le_of_ble_eq_true rfl)) sh_96 (ib_20 (by decide)) ix_20 dX11_layAround_114 ?_
                  refine v_iload_n (pc := 115) 4 hX dX11_layAround_115 rfl ?_
                  refine v_iload (pc := 116) 11 hX dX11_layAround_116 rfl ?_
                  refine v_imul (pc := 118) hX dX11_layAround_118 ?_
                  refine v_iadd (pc := 119) hX dX11_layAround_119 ?_
                  obtain ⟨x28, ex28, h⟩ := bd_e h
                  refine v_top ex28 ?_
                  refine v_istore (pc := 120) [(13, .int x28), (12, .int x27), (11, .int x26), (0, .ref (ad 95)), (1, .int w1), (2, .int x1), (3, .int x4), (4, .int x7), (5, .long y21), (7, .int x22), (8, .int x11), (9, .int x17), (10, .int x23)] hX dX11_layAround_120 (by decide) rfl ?_
                  refine v_aload_n (pc := 122) 3 hX dX11_layAround_122 rfl ?_
                  refine v_iload (pc := 123) 2 hX dX11_layAround_123 rfl ?_
                  refine v_iload (pc := 125) 1 hX dX11_layAround_125 rfl ?_
                  refine v_iload (pc := 127) 0 hX dX11_layAround_127 rfl ?_
                  obtain ⟨x30, h29, h⟩ := b1_e h
                  refine v_callV (pc := 129) [.int x26, .int x27, .int x28] (some (.int x30)) M24 hX cv_11_84 (c_X11_isAllowed (sub_cs hcs (Nat.le_of_ble_eq_true rfl) (Nat.le_of_ble_eq_true rfl)) M24 x26 x27 x28 x30 h29) (hcs 95 (Nat.le_of_ble_eq_true rfl) (Nat.le_of_ble_eq_true rfl)) sh_95 rfl rfl rfl ⟨Nat.le_of_ble_eq_true rfl, Nat.le_of_ble_eq_true rfl⟩ (Nat.le_of_ble_eq_true rfl) dX11_layAround_129 ?_
                  show VV X 14 ad cs M24 132 [(13, .int x28), (12, .int x27), (11, .int x26), (0, .ref (ad 95)), (1, .int w1), (2, .int x1), (3, .int x4), (4, .int x7), (5, .long y21), (7, .int x22), (8, .int x11), (9, .int x17), (10, .int x23)] [.int x30]
                  obtain ⟨k31, ek31, h⟩ := bd_e h
                  have K32 : ∀ (y33 : Int64) (x34 : Int32) (M35 : Mm), k31 y33 x34 M35 = some q → VV X 14 ad cs M35 197 [(0, .ref (ad 95)), (1, .int w1), (2, .int x1), (3, .int x4), (4, .int x7), (5, .long y33), (7, .int x34), (8, .int x11), (9, .int x17), (10, .int x23)] [] := by
                    intro y33 x34 M35 h
                    subst ek31
                    obtain ⟨x36, ex36, h⟩ := bd_e h
                    refine v_iinc (v := x36) (pc := 197) 9 [(10, .int x36), (0, .ref (ad 95)), (1, .int w1), (2, .int x1), (3, .int x4), (4, .int x7), (5, .long y33), (7, .int x34), (8, .int x11), (9, .int x17)] hX dX11_layAround_197 rfl (ex36.trans (by rw [ic_1])) (by decide) rfl ?_
                    refine v_goto (pc := 200) (tgt := 73) hX dX11_layAround_200 (by decide) ?_
                    obtain rfl := Option.some.inj h
                    exact v_sub [1, 2, 3, 4, 5, 6, 7, 8, 9, 0] rfl hK
                  refine v_if_eq (pc := 132) (tgt := 197) hX dX11_layAround_132 (by decide) (fun h37 => ?_) (fun h37 => ?_)
                  · have h := if_t h h37
                    exact v_sub [3, 4, 5, 6, 7, 8, 9, 10, 11, 12] rfl (K32 y21 x22 M24 h)
                  · have h := if_f h h37
                    refine v_iload (pc := 135) 9 hX dX11_layAround_135 rfl ?_
                    obtain ⟨k38, ek38, h⟩ := bd_e h
                    have K39 : ∀ (_ : Unit), k38 () = some q → VV X 14 ad cs M24 157 [(0, .ref (ad 95)), (1, .int w1), (2, .int x1), (3, .int x4), (4, .int x7), (8, .int x11), (9, .int x17), (10, .int x23), (11, .int x26), (12, .int x27), (13, .int x28)] [] := by
                      intro _ h
                      subst ek38
                      refine v_iconst (pc := 157) hX dX11_layAround_157 ic_1 ?_
                      refine v_istore (pc := 158) [(7, .int 1), (0, .ref (ad 95)), (1, .int w1), (2, .int x1), (3, .int x4), (4, .int x7), (8, .int x11), (9, .int x17), (10, .int x23), (11, .int x26), (12, .int x27), (13, .int x28)] hX dX11_layAround_158 (by decide) rfl ?_
                      refine v_aload_n (pc := 160) 1 hX dX11_layAround_160 rfl ?_
                      refine v_iload (pc := 161) 9 hX dX11_layAround_161 rfl ?_
                      refine v_iload (pc := 163) 10 hX dX11_layAround_163 rfl ?_
                      refine v_iload (pc := 165) 11 hX dX11_layAround_165 rfl ?_
                      refine v_iconst (pc := 167) hX dX11_layAround_167 ic_0 ?_
                      obtain ⟨y41, h40, h⟩ := b1_e h
                      refine v_callV (pc := 168) [.int x26, .int x27, .int x28, .int 0] (some (.long y41)) M24 hX cv_11_64 (c_X11_valueAt (sub_cs hcs (Nat.le_of_ble_eq_true rfl) (Nat.le_of_ble_eq_true rfl)) M24 x26 x27 x28 0 y41 h40) (hcs 95 (Nat.le_of_ble_eq_true rfl) (Nat.le_of_ble_eq_true rfl)) sh_95 rfl rfl rfl ⟨Nat.le_of_ble_eq_true rfl, Nat.le_of_ble_eq_true rfl⟩ (Nat.le_of_ble_eq_true rfl) dX11_layAround_168 ?_
                      show VV X 14 ad cs M24 171 [(7, .int 1), (0, .ref (ad 95)), (1, .int w1), (2, .int x1), (3, .int x4), (4, .int x7), (8, .int x11), (9, .int x17), (10, .int x23), (11, .int x26), (12, .int x27), (13, .int x28)] [.long y41]
                      refine v_lstore (pc := 171) [(5, .long y41), (7, .int 1), (0, .ref (ad 95)), (1, .int w1), (2, .int x1), (3, .int x4), (4, .int x7), (8, .int x11), (9, .int x17), (10, .int x23), (11, .int x26), (12, .int x27), (13, .int x28)] hX dX11_layAround_171 (by decide) rfl ?_
                      refine v_aload_n (pc := 173) 2 hX dX11_layAround_173 rfl ?_
                      refine v_getR (pc := 174) (t := 101) hX (hcs 95 (Nat.le_of_ble_eq_true rfl) (Nat.le_of_ble_eq_true rfl)) sh_95 fl_11_26 rfl dX11_layAround_174 ?_
                      refine v_iconst (pc := 177) hX dX11_layAround_177 ic_0 ?_
                      refine v_iload (pc := 178) 10 hX dX11_layAround_178 rfl ?_
                      obtain ⟨M42, eM42, h⟩ := bd_e h
                      refine v_iast (pc := 180) hX (hcs 101 (Nat.le_of_ble_eq_true rfl) (Nat.le_of_ble_eq_true rfl)) sh_101 (ib_0 (by decide)) ix_0 dX11_layAround_180 eM42 ?_
                      refine v_aload_n (pc := 181) 2 hX dX11_layAround_181 rfl ?_
                      refine v_getR (pc := 182) (t := 101) hX (hcs 95 (Nat.le_of_ble_eq_true rfl) (Nat.le_of_ble_eq_true rfl)) sh_95 fl_11_26 rfl dX11_layAround_182 ?_
                      refine v_iconst (pc := 185) hX dX11_layAround_185 ic_1 ?_
                      refine v_iload (pc := 186) 11 hX dX11_layAround_186 rfl ?_
                      obtain ⟨M43, eM43, h⟩ := bd_e h
                      refine v_iast (pc := 188) hX (hcs 101 (Nat.le_of_ble_eq_true rfl) (Nat.le_of_ble_eq_true rfl)) sh_101 (ib_1 (by decide)) ix_1 dX11_layAround_188 eM43 ?_
                      refine v_aload_n (pc := 189) 2 hX dX11_layAround_189 rfl ?_
                      refine v_getR (pc := 190) (t := 101) hX (hcs 95 (Nat.le_of_ble_eq_true rfl) (Nat.le_of_ble_eq_true rfl)) sh_95 fl_11_26 rfl dX11_layAround_190 ?_
                      refine v_iconst (pc := 193) hX dX11_layAround_193 ic_2 ?_
                      refine v_iload (pc := 194) 12 hX dX11_layAround_194 rfl ?_
                      obtain ⟨M44, eM44, h⟩ := bd_e h
                      refine v_iast (pc := 196) hX (hcs 101 (Nat.le_of_ble_eq_true rfl) (Nat.le_of_ble_eq_true rfl)) sh_101 (ib_2 (by decide)) ix_2 dX11_layAround_196 eM44 ?_
                      exact v_sub [2, 3, 4, 5, 6, 0, 1, 7, 8, 9] rfl (K32 y41 1 M44 h)
                    refine v_if_eq (pc := 137) (tgt := 157) hX dX11_layAround_137 (by decide) (fun h45 => ?_) (fun h45 => ?_)
                    · have h := if_t h h45
                      exact v_sub [3, 4, 5, 6, 7, 10, 11, 12, 2, 1, 0] rfl (K39 () h)
                    · have h := if_f h h45
                      refine v_aload_n (pc := 140) 3 hX dX11_layAround_140 rfl ?_
                      refine v_iload (pc := 141) 2 hX dX11_layAround_141 rfl ?_
                      refine v_iload (pc := 143) 1 hX dX11_layAround_143 rfl ?_
                      refine v_iload (pc := 145) 0 hX dX11_layAround_145 rfl ?_
                      refine v_iconst (pc := 147) hX dX11_layAround_147 ic_0 ?_
                      obtain ⟨y47, h46, h⟩ := b1_e h
                      refine v_callV (pc := 148) [.int x26, .int x27, .int x28, .int 0] (some (.long y47)) M24 hX cv_11_64 (c_X11_valueAt (sub_cs hcs (Nat.le_of_ble_eq_true rfl) (Nat.le_of_ble_eq_true rfl)) M24 x26 x27 x28 0 y47 h46) (hcs 95 (Nat.le_of_ble_eq_true rfl) (Nat.le_of_ble_eq_true rfl)) sh_95 rfl rfl rfl ⟨Nat.le_of_ble_eq_true rfl, Nat.le_of_ble_eq_true rfl⟩ (Nat.le_of_ble_eq_true rfl) dX11_layAround_148 ?_
                      show VV X 14 ad cs M24 151 [(13, .int x28), (12, .int x27), (11, .int x26), (0, .ref (ad 95)), (1, .int w1), (2, .int x1), (3, .int x4), (4, .int x7), (5, .long y21), (7, .int x22), (8, .int x11), (9, .int x17), (10, .int x23)] [.long y47]
                      refine v_lload (pc := 151) 8 hX dX11_layAround_151 rfl ?_
                      refine v_lcmp (pc := 153) hX dX11_layAround_153 ?_
                      refine v_if_ge (pc := 154) (tgt := 197) hX dX11_layAround_154 (by decide) (fun h48 => ?_) (fun h48 => ?_)
                      · have h := if_t h h48
                        exact v_sub [3, 4, 5, 6, 7, 8, 9, 10, 11, 12] rfl (K32 y21 x22 M24 h)
                      · have h := if_f h h48
                        exact v_sub [3, 4, 5, 6, 7, 10, 11, 12, 2, 1, 0] rfl (K39 () h)
              )
              obtain ⟨y50, x51, M52, h54, h⟩ := b3_e h
              refine v_sub [1, 2, 3, 4, 5, 6, 7, 8, 9, 0] rfl ?_
              refine L49 1000 _ _ h54 ?_
              show VV X 14 ad cs M52 203 [(0, .ref (ad 95)), (1, .int w1), (2, .int x1), (3, .int x4), (4, .int x7), (5, .long y50), (7, .int x51), (8, .int x11), (9, .int x17)] []
              obtain ⟨x53, ex53, h⟩ := bd_e h
              refine v_iinc (v := x53) (pc := 203) 8 [(9, .int x53), (0, .ref (ad 95)), (1, .int w1), (2, .int x1), (3, .int x4), (4, .int x7), (5, .long y50), (7, .int x51), (8, .int x11)] hX dX11_layAround_203 rfl (ex53.trans (by rw [ic_1])) (by decide) rfl ?_
              refine v_goto (pc := 206) (tgt := 62) hX dX11_layAround_206 (by decide) ?_
              obtain rfl := Option.some.inj h
              exact v_sub [1, 2, 3, 4, 5, 6, 7, 8, 0] rfl hK
          )
          obtain ⟨y56, x57, M58, h60, h⟩ := b3_e h
          refine v_sub [1, 2, 3, 4, 5, 6, 7, 8, 0] rfl ?_
          refine L55 1000 _ _ h60 ?_
          show VV X 14 ad cs M58 209 [(0, .ref (ad 95)), (1, .int w1), (2, .int x1), (3, .int x4), (4, .int x7), (5, .long y56), (7, .int x57), (8, .int x11)] []
          obtain ⟨x59, ex59, h⟩ := bd_e h
          refine v_iinc (v := x59) (pc := 209) 7 [(8, .int x59), (0, .ref (ad 95)), (1, .int w1), (2, .int x1), (3, .int x4), (4, .int x7), (5, .long y56), (7, .int x57)] hX dX11_layAround_209 rfl (ex59.trans (by rw [ic_1])) (by decide) rfl ?_
          refine v_goto (pc := 212) (tgt := 52) hX dX11_layAround_212 (by decide) ?_
          obtain rfl := Option.some.inj h
          exact v_sub [1, 2, 3, 4, 5, 6, 7, 0] rfl hK
      )
      obtain ⟨M62, h63, h⟩ := b1_e h
      refine v_sub [4, 5, 6, 7, 3, 2, 1, 0] rfl ?_
      refine L61 1000 _ _ h63 ?_
      show VV X 14 ad cs M62 215 [] []
      obtain rfl := Option.some.inj h
      exact v_vret (pc := 215) hX hR dX11_layAround_215
    refine v_icmp_le (pc := 32) (tgt := 39) hX dX11_layAround_32 (by decide) (fun h64 => ?_) (fun h64 => ?_)
    · have h := if_t h h64
      refine v_iconst (pc := 39) hX dX11_layAround_39 ic_0 ?_
      exact v_sub [1, 2, 3, 0] rfl (K6 0 h)
    · have h := if_f h h64
      refine v_iload_n (pc := 35) 2 hX dX11_layAround_35 rfl ?_
      refine v_goto (pc := 36) (tgt := 40) hX dX11_layAround_36 (by decide) ?_
      exact v_sub [1, 2, 3, 0] rfl (K6 w1 h)
  refine v_icmp_le (pc := 16) (tgt := 23) hX dX11_layAround_16 (by decide) (fun h65 => ?_) (fun h65 => ?_)
  · have h := if_t h h65
    refine v_iconst (pc := 23) hX dX11_layAround_23 ic_0 ?_
    exact v_sub [1, 2, 0] rfl (K3 0 h)
  · have h := if_f h h65
    refine v_iload_n (pc := 19) 2 hX dX11_layAround_19 rfl ?_
    refine v_goto (pc := 20) (tgt := 24) hX dX11_layAround_20 (by decide) ?_
    exact v_sub [1, 2, 0] rfl (K3 w1 h)
set_option maxHeartbeats 4000000 in
set_option maxRecDepth 100000 in
theorem c_X11_around {ad : Nat → Nat} {cs : List Nat} (hcs : ∀ k, 95 ≤ k → k < 102 → k ∈ cs) (M : Mm) (w1 : Int32) (w2 : Int32) (q : Int32 × Mm) (h : fX11_around M w1 w2 = some q) : CT ad cs yX11_around cX11_around 3 (some .int) 3 86 [.ref (ad 95), .int w1, .int w2] M (some (.int q.1)) q.2 := by
  refine CT.of RX11 (by decide +kernel) rfl (Nat.le_of_ble_eq_true rfl) (fun X hX hR => ?_)
  unfold fX11_around at h
  show VV X 3 ad cs M 0 [(0, .ref (ad 95)), (1, .int w1), (2, .int w2)] []
  refine v_iload_n (pc := 0) 1 hX dX11_around_0 rfl ?_
  refine v_iconst (pc := 1) hX dX11_around_1 ic_0 ?_
  refine v_iconst (pc := 2) hX dX11_around_2 ic_3 ?_
  obtain ⟨x2, h1, h⟩ := b1_e h
  refine v_callS (pc := 3) [.int w1, .int 0, .int 3] (some (.int x2)) M hX cv_11_48 (c_X11_in M w1 0 3 x2 h1) rfl rfl ⟨Nat.le_of_ble_eq_true rfl, Nat.le_of_ble_eq_true rfl⟩ (Nat.le_of_ble_eq_true rfl) dX11_around_3 ?_
  show VV X 3 ad cs M 6 [(0, .ref (ad 95)), (1, .int w1), (2, .int w2)] [.int x2]
  refine v_if_eq (pc := 6) (tgt := 18) hX dX11_around_6 (by decide) (fun h3 => ?_) (fun h3 => ?_)
  · have h := if_t h h3
    refine v_ldc (pc := 18) hX kc_11_70 dX11_around_18 ?_
    obtain rfl := Option.some.inj h
    exact v_iret (pc := 20) hX hR dX11_around_20
  · have h := if_f h h3
    refine v_iload_n (pc := 9) 2 hX dX11_around_9 rfl ?_
    refine v_iconst (pc := 10) hX dX11_around_10 ic_0 ?_
    refine v_iconst (pc := 11) hX dX11_around_11 ic_2 ?_
    obtain ⟨x5, h4, h⟩ := b1_e h
    refine v_callS (pc := 12) [.int w2, .int 0, .int 2] (some (.int x5)) M hX cv_11_48 (c_X11_in M w2 0 2 x5 h4) rfl rfl ⟨Nat.le_of_ble_eq_true rfl, Nat.le_of_ble_eq_true rfl⟩ (Nat.le_of_ble_eq_true rfl) dX11_around_12 ?_
    show VV X 3 ad cs M 15 [(0, .ref (ad 95)), (1, .int w1), (2, .int w2)] [.int x5]
    refine v_if_ne (pc := 15) (tgt := 21) hX dX11_around_15 (by decide) (fun h6 => ?_) (fun h6 => ?_)
    · have h := if_f h h6
      refine v_aload_n (pc := 21) 0 hX dX11_around_21 rfl ?_
      obtain ⟨x8, h7, h⟩ := b1_e h
      refine v_callV (pc := 22) [] (some (.int x8)) M hX cv_11_91 (c_X11_isHereAllowed (sub_cs hcs (Nat.le_of_ble_eq_true rfl) (Nat.le_of_ble_eq_true rfl)) M x8 h7) (hcs 95 (Nat.le_of_ble_eq_true rfl) (Nat.le_of_ble_eq_true rfl)) sh_95 rfl rfl rfl ⟨Nat.le_of_ble_eq_true rfl, Nat.le_of_ble_eq_true rfl⟩ (Nat.le_of_ble_eq_true rfl) dX11_around_22 ?_
      show VV X 3 ad cs M 25 [(0, .ref (ad 95)), (1, .int w1), (2, .int w2)] [.int x8]
      refine v_if_ne (pc := 25) (tgt := 31) hX dX11_around_25 (by decide) (fun h9 => ?_) (fun h9 => ?_)
      · have h := if_f h h9
        refine v_aload_n (pc := 31) 0 hX dX11_around_31 rfl ?_
        refine v_iload_n (pc := 32) 1 hX dX11_around_32 rfl ?_
        obtain ⟨M11, h10, h⟩ := b1_e h
        refine v_callV (pc := 33) [.int w1] none M11 hX cv_11_167 (c_X11_layAround (sub_cs hcs (Nat.le_of_ble_eq_true rfl) (Nat.le_of_ble_eq_true rfl)) M w1 M11 h10) (hcs 95 (Nat.le_of_ble_eq_true rfl) (Nat.le_of_ble_eq_true rfl)) sh_95 rfl rfl rfl ⟨Nat.le_of_ble_eq_true rfl, Nat.le_of_ble_eq_true rfl⟩ (Nat.le_of_ble_eq_true rfl) dX11_around_33 ?_
        show VV X 3 ad cs M11 36 [(0, .ref (ad 95)), (1, .int w1), (2, .int w2)] []
        refine v_aload_n (pc := 36) 0 hX dX11_around_36 rfl ?_
        refine v_getR (pc := 37) (t := 101) hX (hcs 95 (Nat.le_of_ble_eq_true rfl) (Nat.le_of_ble_eq_true rfl)) sh_95 fl_11_26 rfl dX11_around_37 ?_
        refine v_iload_n (pc := 40) 2 hX dX11_around_40 rfl ?_
        obtain ⟨g12, h⟩ := gd_e h
        refine v_iald (pc := 41) hX (hcs 101 (Nat.le_of_ble_eq_true rfl) (Nat.le_of_ble_eq_true rfl)) sh_101 g12 rfl dX11_around_41 ?_
        obtain rfl := Option.some.inj h
        exact v_iret (pc := 42) hX hR dX11_around_42
      · have h := if_t h h9
        refine v_ldc (pc := 28) hX kc_11_40 dX11_around_28 ?_
        obtain rfl := Option.some.inj h
        exact v_iret (pc := 30) hX hR dX11_around_30
    · have h := if_t h h6
      refine v_ldc (pc := 18) hX kc_11_70 dX11_around_18 ?_
      obtain rfl := Option.some.inj h
      exact v_iret (pc := 20) hX hR dX11_around_20
set_option maxHeartbeats 4000000 in
set_option maxRecDepth 100000 in
theorem c_X11_keep {ad : Nat → Nat} {cs : List Nat} (hcs : ∀ k, 95 ≤ k → k < 99 → k ∈ cs) (M : Mm) (q : Int32 × Mm) (h : fX11_keep M = some q) : CT ad cs yX11_keep cX11_keep 2 (some .int) 0 0 [.ref (ad 95)] M (some (.int q.1)) q.2 := by
  refine CT.of RX11 (by decide +kernel) rfl (Nat.le_of_ble_eq_true rfl) (fun X hX hR => ?_)
  unfold fX11_keep at h
  show VV X 2 ad cs M 0 [(0, .ref (ad 95))] []
  refine v_aload_n (pc := 0) 0 hX dX11_keep_0 rfl ?_
  refine v_iconst (pc := 1) hX dX11_keep_1 ic_1 ?_
  obtain ⟨M1, eM1, h⟩ := bd_e h
  refine v_putZ (pc := 2) hX (hcs 95 (Nat.le_of_ble_eq_true rfl) (Nat.le_of_ble_eq_true rfl)) sh_95 pl_11_41 rfl (Or.inr rfl) dX11_keep_2 eM1 ?_
  refine v_iconst (pc := 5) hX dX11_keep_5 ic_0 ?_
  refine v_istore_n (pc := 6) [(1, .int 0), (0, .ref (ad 95))] hX dX11_keep_6 (by decide) rfl ?_
  have L8 := v_itr (fX11_keep_L7) (fun z => VV X 2 ad cs z.2 7 [(0, .ref (ad 95)), (1, .int z.1)] []) (fun z => VV X 2 ad cs z 31 [(0, .ref (ad 95))] []) (by
    rintro ⟨x2, M3⟩ q h hK
    unfold fX11_keep_L7 at h
    have h := u2_b h
    show VV X 2 ad cs M3 7 [(0, .ref (ad 95)), (1, .int x2)] []
    refine v_iload_n (pc := 7) 1 hX dX11_keep_7 rfl ?_
    refine v_bipush (pc := 8) hX dX11_keep_8 bp_111 ?_
    refine v_icmp_ge (pc := 10) (tgt := 31) hX dX11_keep_10 (by decide) (fun h4 => ?_) (fun h4 => ?_)
    · have h := if_t h h4
      obtain rfl := Option.some.inj h
      exact v_sub [0] rfl hK
    · have h := if_f h h4
      refine v_aload_n (pc := 13) 0 hX dX11_keep_13 rfl ?_
      refine v_getR (pc := 14) (t := 98) hX (hcs 95 (Nat.le_of_ble_eq_true rfl) (Nat.le_of_ble_eq_true rfl)) sh_95 fl_11_16 rfl dX11_keep_14 ?_
      refine v_iload_n (pc := 17) 1 hX dX11_keep_17 rfl ?_
      refine v_aload_n (pc := 18) 0 hX dX11_keep_18 rfl ?_
      refine v_getR (pc := 19) (t := 96) hX (hcs 95 (Nat.le_of_ble_eq_true rfl) (Nat.le_of_ble_eq_true rfl)) sh_95 fl_11_7 rfl dX11_keep_19 ?_
      refine v_iload_n (pc := 22) 1 hX dX11_keep_22 rfl ?_
      obtain ⟨g5, h⟩ := gd_e h
      refine v_iald (pc := 23) hX (hcs 96 (Nat.le_of_ble_eq_true rfl) (Nat.le_of_ble_eq_true rfl)) sh_96 g5 rfl dX11_keep_23 ?_
      obtain ⟨M6, eM6, h⟩ := bd_e h
      refine v_iast (pc := 24) hX (hcs 98 (Nat.le_of_ble_eq_true rfl) (Nat.le_of_ble_eq_true rfl)) sh_98 g5 rfl dX11_keep_24 eM6 ?_
      obtain ⟨x7, ex7, h⟩ := bd_e h
      refine v_iinc (v := x7) (pc := 25) 1 [(1, .int x7), (0, .ref (ad 95))] hX dX11_keep_25 rfl (ex7.trans (by rw [ic_1])) (by decide) rfl ?_
      refine v_goto (pc := 28) (tgt := 7) hX dX11_keep_28 (by decide) ?_
      obtain rfl := Option.some.inj h
      exact v_sub [1, 0] rfl hK
  )
  obtain ⟨M9, h10, h⟩ := b1_e h
  refine v_sub [1, 0] rfl ?_
  refine L8 1000 _ _ h10 ?_
  show VV X 2 ad cs M9 31 [(0, .ref (ad 95))] []
  refine v_aload_n (pc := 31) 0 hX dX11_keep_31 rfl ?_
  refine v_getR (pc := 32) (t := 96) hX (hcs 95 (Nat.le_of_ble_eq_true rfl) (Nat.le_of_ble_eq_true rfl)) sh_95 fl_11_7 rfl dX11_keep_32 ?_
  refine v_iconst (pc := 35) hX dX11_keep_35 ic_1 ?_
  refine v_iald (pc := 36) hX (hcs 96 (Nat.le_of_ble_eq_true rfl) (Nat.le_of_ble_eq_true rfl)) sh_96 (ib_1 (by decide)) ix_1 dX11_keep_36 ?_
  obtain rfl := Option.some.inj h
  exact v_iret (pc := 37) hX hR dX11_keep_37
set_option maxHeartbeats 4000000 in
set_option maxRecDepth 100000 in
theorem c_X11_restore {ad : Nat → Nat} {cs : List Nat} (hcs : ∀ k, 95 ≤ k → k < 99 → k ∈ cs) (M : Mm) (q : Int32 × Mm) (h : fX11_restore M = some q) : CT ad cs yX11_restore cX11_restore 2 (some .int) 1 21 [.ref (ad 95)] M (some (.int q.1)) q.2 := by
  refine CT.of RX11 (by decide +kernel) rfl (Nat.le_of_ble_eq_true rfl) (fun X hX hR => ?_)
  unfold fX11_restore at h
  show VV X 2 ad cs M 0 [(0, .ref (ad 95))] []
  refine v_aload_n (pc := 0) 0 hX dX11_restore_0 rfl ?_
  refine v_getI (pc := 1) hX (hcs 95 (Nat.le_of_ble_eq_true rfl) (Nat.le_of_ble_eq_true rfl)) sh_95 fl_11_41 rfl dX11_restore_1 ?_
  refine v_if_ne (pc := 4) (tgt := 10) hX dX11_restore_4 (by decide) (fun h1 => ?_) (fun h1 => ?_)
  · have h := if_f h h1
    refine v_aload_n (pc := 10) 0 hX dX11_restore_10 rfl ?_
    obtain ⟨M3, h2, h⟩ := b1_e h
    refine v_callV (pc := 11) [] none M3 hX cv_11_45 (c_X11_record (sub_cs hcs (Nat.le_of_ble_eq_true rfl) (Nat.le_of_ble_eq_true rfl)) M M3 h2) (hcs 95 (Nat.le_of_ble_eq_true rfl) (Nat.le_of_ble_eq_true rfl)) sh_95 rfl rfl rfl ⟨Nat.le_of_ble_eq_true rfl, Nat.le_of_ble_eq_true rfl⟩ (Nat.le_of_ble_eq_true rfl) dX11_restore_11 ?_
    show VV X 2 ad cs M3 14 [(0, .ref (ad 95))] []
    refine v_iconst (pc := 14) hX dX11_restore_14 ic_0 ?_
    refine v_istore_n (pc := 15) [(1, .int 0), (0, .ref (ad 95))] hX dX11_restore_15 (by decide) rfl ?_
    have L10 := v_itr (fX11_restore_L16) (fun z => VV X 2 ad cs z.2 16 [(0, .ref (ad 95)), (1, .int z.1)] []) (fun z => VV X 2 ad cs z 40 [(0, .ref (ad 95))] []) (by
      rintro ⟨x4, M5⟩ q h hK
      unfold fX11_restore_L16 at h
      have h := u2_b h
      show VV X 2 ad cs M5 16 [(0, .ref (ad 95)), (1, .int x4)] []
      refine v_iload_n (pc := 16) 1 hX dX11_restore_16 rfl ?_
      refine v_bipush (pc := 17) hX dX11_restore_17 bp_111 ?_
      refine v_icmp_ge (pc := 19) (tgt := 40) hX dX11_restore_19 (by decide) (fun h6 => ?_) (fun h6 => ?_)
      · have h := if_t h h6
        obtain rfl := Option.some.inj h
        exact v_sub [0] rfl hK
      · have h := if_f h h6
        refine v_aload_n (pc := 22) 0 hX dX11_restore_22 rfl ?_
        refine v_getR (pc := 23) (t := 96) hX (hcs 95 (Nat.le_of_ble_eq_true rfl) (Nat.le_of_ble_eq_true rfl)) sh_95 fl_11_7 rfl dX11_restore_23 ?_
        refine v_iload_n (pc := 26) 1 hX dX11_restore_26 rfl ?_
        refine v_aload_n (pc := 27) 0 hX dX11_restore_27 rfl ?_
        refine v_getR (pc := 28) (t := 98) hX (hcs 95 (Nat.le_of_ble_eq_true rfl) (Nat.le_of_ble_eq_true rfl)) sh_95 fl_11_16 rfl dX11_restore_28 ?_
        refine v_iload_n (pc := 31) 1 hX dX11_restore_31 rfl ?_
        obtain ⟨g7, h⟩ := gd_e h
        refine v_iald (pc := 32) hX (hcs 98 (Nat.le_of_ble_eq_true rfl) (Nat.le_of_ble_eq_true rfl)) sh_98 g7 rfl dX11_restore_32 ?_
        obtain ⟨M8, eM8, h⟩ := bd_e h
        refine v_iast (pc := 33) hX (hcs 96 (Nat.le_of_ble_eq_true rfl) (Nat.le_of_ble_eq_true rfl)) sh_96 g7 rfl dX11_restore_33 eM8 ?_
        obtain ⟨x9, ex9, h⟩ := bd_e h
        refine v_iinc (v := x9) (pc := 34) 1 [(1, .int x9), (0, .ref (ad 95))] hX dX11_restore_34 rfl (ex9.trans (by rw [ic_1])) (by decide) rfl ?_
        refine v_goto (pc := 37) (tgt := 16) hX dX11_restore_37 (by decide) ?_
        obtain rfl := Option.some.inj h
        exact v_sub [1, 0] rfl hK
    )
    obtain ⟨M11, h12, h⟩ := b1_e h
    refine v_sub [1, 0] rfl ?_
    refine L10 1000 _ _ h12 ?_
    show VV X 2 ad cs M11 40 [(0, .ref (ad 95))] []
    refine v_aload_n (pc := 40) 0 hX dX11_restore_40 rfl ?_
    refine v_getR (pc := 41) (t := 96) hX (hcs 95 (Nat.le_of_ble_eq_true rfl) (Nat.le_of_ble_eq_true rfl)) sh_95 fl_11_7 rfl dX11_restore_41 ?_
    refine v_iconst (pc := 44) hX dX11_restore_44 ic_1 ?_
    refine v_iald (pc := 45) hX (hcs 96 (Nat.le_of_ble_eq_true rfl) (Nat.le_of_ble_eq_true rfl)) sh_96 (ib_1 (by decide)) ix_1 dX11_restore_45 ?_
    obtain rfl := Option.some.inj h
    exact v_iret (pc := 46) hX hR dX11_restore_46
  · have h := if_t h h1
    refine v_ldc (pc := 7) hX kc_11_40 dX11_restore_7 ?_
    obtain rfl := Option.some.inj h
    exact v_iret (pc := 9) hX hR dX11_restore_9
set_option maxHeartbeats 4000000 in
set_option maxRecDepth 100000 in
theorem c_X11_undo {ad : Nat → Nat} {cs : List Nat} (hcs : ∀ k, 95 ≤ k → k < 98 → k ∈ cs) (M : Mm) (q : Int32 × Mm) (h : fX11_undo M = some q) : CT ad cs yX11_undo cX11_undo 2 (some .int) 0 0 [.ref (ad 95)] M (some (.int q.1)) q.2 := by
  refine CT.of RX11 (by decide +kernel) rfl (Nat.le_of_ble_eq_true rfl) (fun X hX hR => ?_)
  unfold fX11_undo at h
  show VV X 2 ad cs M 0 [(0, .ref (ad 95))] []
  refine v_aload_n (pc := 0) 0 hX dX11_undo_0 rfl ?_
  refine v_getI (pc := 1) hX (hcs 95 (Nat.le_of_ble_eq_true rfl) (Nat.le_of_ble_eq_true rfl)) sh_95 fl_11_36 rfl dX11_undo_1 ?_
  refine v_if_ne (pc := 4) (tgt := 10) hX dX11_undo_4 (by decide) (fun h1 => ?_) (fun h1 => ?_)
  · have h := if_f h h1
    refine v_aload_n (pc := 10) 0 hX dX11_undo_10 rfl ?_
    refine v_dup (pc := 11) hX dX11_undo_11 rfl ?_
    refine v_getI (pc := 12) hX (hcs 95 (Nat.le_of_ble_eq_true rfl) (Nat.le_of_ble_eq_true rfl)) sh_95 fl_11_36 rfl dX11_undo_12 ?_
    refine v_iconst (pc := 15) hX dX11_undo_15 ic_1 ?_
    refine v_isub (pc := 16) hX dX11_undo_16 ?_
    obtain ⟨M2, eM2, h⟩ := bd_e h
    refine v_putI (pc := 17) hX (hcs 95 (Nat.le_of_ble_eq_true rfl) (Nat.le_of_ble_eq_true rfl)) sh_95 pl_11_36 rfl dX11_undo_17 eM2 ?_
    refine v_iconst (pc := 20) hX dX11_undo_20 ic_0 ?_
    refine v_istore_n (pc := 21) [(1, .int 0), (0, .ref (ad 95))] hX dX11_undo_21 (by decide) rfl ?_
    have L10 := v_itr (fX11_undo_L22) (fun z => VV X 2 ad cs z.2 22 [(0, .ref (ad 95)), (1, .int z.1)] []) (fun z => VV X 2 ad cs z 54 [(0, .ref (ad 95))] []) (by
      rintro ⟨x3, M4⟩ q h hK
      unfold fX11_undo_L22 at h
      have h := u2_b h
      show VV X 2 ad cs M4 22 [(0, .ref (ad 95)), (1, .int x3)] []
      refine v_iload_n (pc := 22) 1 hX dX11_undo_22 rfl ?_
      refine v_bipush (pc := 23) hX dX11_undo_23 bp_111 ?_
      refine v_icmp_ge (pc := 25) (tgt := 54) hX dX11_undo_25 (by decide) (fun h5 => ?_) (fun h5 => ?_)
      · have h := if_t h h5
        obtain rfl := Option.some.inj h
        exact v_sub [0] rfl hK
      · have h := if_f h h5
        refine v_aload_n (pc := 28) 0 hX dX11_undo_28 rfl ?_
        refine v_getR (pc := 29) (t := 96) hX (hcs 95 (Nat.le_of_ble_eq_true rfl) (Nat.le_of_ble_eq_true rfl)) sh_95 fl_11_7 rfl dX11_undo_29 ?_
        refine v_iload_n (pc := 32) 1 hX dX11_undo_32 rfl ?_
        refine v_aload_n (pc := 33) 0 hX dX11_undo_33 rfl ?_
        refine v_getR (pc := 34) (t := 97) hX (hcs 95 (Nat.le_of_ble_eq_true rfl) (Nat.le_of_ble_eq_true rfl)) sh_95 fl_11_13 rfl dX11_undo_34 ?_
        refine v_aload_n (pc := 37) 0 hX dX11_undo_37 rfl ?_
        refine v_getI (pc := 38) hX (hcs 95 (Nat.le_of_ble_eq_true rfl) (Nat.le_of_ble_eq_true rfl)) sh_95 fl_11_36 rfl dX11_undo_38 ?_
        refine v_bipush (pc := 41) hX dX11_undo_41 bp_111 ?_
        refine v_imul (pc := 43) hX dX11_undo_43 ?_
        refine v_iload_n (pc := 44) 1 hX dX11_undo_44 rfl ?_
        refine v_iadd (pc := 45) hX dX11_undo_45 ?_
        obtain ⟨g6, h⟩ := gd_e h
        refine v_iald (pc := 46) hX (hcs 97 (Nat.le_of_ble_eq_true rfl) (Nat.le_of_ble_eq_true rfl)) sh_97 g6 rfl dX11_undo_46 ?_
        obtain ⟨g7, h⟩ := gd_e h
        obtain ⟨M8, eM8, h⟩ := bd_e h
        refine v_iast (pc := 47) hX (hcs 96 (Nat.le_of_ble_eq_true rfl) (Nat.le_of_ble_eq_true rfl)) sh_96 g7 rfl dX11_undo_47 eM8 ?_
        obtain ⟨x9, ex9, h⟩ := bd_e h
        refine v_iinc (v := x9) (pc := 48) 1 [(1, .int x9), (0, .ref (ad 95))] hX dX11_undo_48 rfl (ex9.trans (by rw [ic_1])) (by decide) rfl ?_
        refine v_goto (pc := 51) (tgt := 22) hX dX11_undo_51 (by decide) ?_
        obtain rfl := Option.some.inj h
        exact v_sub [1, 0] rfl hK
    )
    obtain ⟨M11, h12, h⟩ := b1_e h
    refine v_sub [1, 0] rfl ?_
    refine L10 1000 _ _ h12 ?_
    show VV X 2 ad cs M11 54 [(0, .ref (ad 95))] []
    refine v_aload_n (pc := 54) 0 hX dX11_undo_54 rfl ?_
    refine v_getI (pc := 55) hX (hcs 95 (Nat.le_of_ble_eq_true rfl) (Nat.le_of_ble_eq_true rfl)) sh_95 fl_11_36 rfl dX11_undo_55 ?_
    obtain rfl := Option.some.inj h
    exact v_iret (pc := 58) hX hR dX11_undo_58
  · have h := if_t h h1
    refine v_ldc (pc := 7) hX kc_11_40 dX11_undo_7 ?_
    obtain rfl := Option.some.inj h
    exact v_iret (pc := 9) hX hR dX11_undo_9
set_option maxHeartbeats 4000000 in
set_option maxRecDepth 100000 in
theorem c_X11_type {ad : Nat → Nat} {cs : List Nat} (hcs : ∀ k, 95 ≤ k → k < 100 → k ∈ cs) (M : Mm) (w1 : Int32) (q : Int32 × Mm) (h : fX11_type M w1 = some q) : CT ad cs yX11_type cX11_type 2 (some .int) 1 22 [.ref (ad 95), .int w1] M (some (.int q.1)) q.2 := by
  refine CT.of RX11 (by decide +kernel) rfl (Nat.le_of_ble_eq_true rfl) (fun X hX hR => ?_)
  unfold fX11_type at h
  show VV X 2 ad cs M 0 [(0, .ref (ad 95)), (1, .int w1)] []
  refine v_iload_n (pc := 0) 1 hX dX11_type_0 rfl ?_
  refine v_bipush (pc := 1) hX dX11_type_1 bp_32 ?_
  refine v_bipush (pc := 3) hX dX11_type_3 bp_126 ?_
  obtain ⟨x2, h1, h⟩ := b1_e h
  refine v_callS (pc := 5) [.int w1, .int 32, .int 126] (some (.int x2)) M hX cv_11_48 (c_X11_in M w1 32 126 x2 h1) rfl rfl ⟨Nat.le_of_ble_eq_true rfl, Nat.le_of_ble_eq_true rfl⟩ (Nat.le_of_ble_eq_true rfl) dX11_type_5 ?_
  show VV X 2 ad cs M 8 [(0, .ref (ad 95)), (1, .int w1)] [.int x2]
  refine v_if_ne (pc := 8) (tgt := 14) hX dX11_type_8 (by decide) (fun h3 => ?_) (fun h3 => ?_)
  · have h := if_f h h3
    refine v_aload_n (pc := 14) 0 hX dX11_type_14 rfl ?_
    refine v_getI (pc := 15) hX (hcs 95 (Nat.le_of_ble_eq_true rfl) (Nat.le_of_ble_eq_true rfl)) sh_95 fl_11_152 rfl dX11_type_15 ?_
    refine v_bipush (pc := 18) hX dX11_type_18 bp_60 ?_
    refine v_icmp_ne (pc := 20) (tgt := 26) hX dX11_type_20 (by decide) (fun h4 => ?_) (fun h4 => ?_)
    · have h := if_f h h4
      refine v_aload_n (pc := 26) 0 hX dX11_type_26 rfl ?_
      refine v_getR (pc := 27) (t := 99) hX (hcs 95 (Nat.le_of_ble_eq_true rfl) (Nat.le_of_ble_eq_true rfl)) sh_95 fl_11_19 rfl dX11_type_27 ?_
      refine v_aload_n (pc := 30) 0 hX dX11_type_30 rfl ?_
      refine v_getI (pc := 31) hX (hcs 95 (Nat.le_of_ble_eq_true rfl) (Nat.le_of_ble_eq_true rfl)) sh_95 fl_11_152 rfl dX11_type_31 ?_
      refine v_iload_n (pc := 34) 1 hX dX11_type_34 rfl ?_
      refine v_i2c (pc := 35) hX dX11_type_35 ?_
      obtain ⟨g5, h⟩ := gd_e h
      obtain ⟨M6, eM6, h⟩ := bd_e h
      refine v_cast (pc := 36) hX (hcs 99 (Nat.le_of_ble_eq_true rfl) (Nat.le_of_ble_eq_true rfl)) sh_99 g5 rfl dX11_type_36 eM6 ?_
      refine v_aload_n (pc := 37) 0 hX dX11_type_37 rfl ?_
      refine v_dup (pc := 38) hX dX11_type_38 rfl ?_
      refine v_getI (pc := 39) hX (hcs 95 (Nat.le_of_ble_eq_true rfl) (Nat.le_of_ble_eq_true rfl)) sh_95 fl_11_152 rfl dX11_type_39 ?_
      refine v_iconst (pc := 42) hX dX11_type_42 ic_1 ?_
      refine v_iadd (pc := 43) hX dX11_type_43 ?_
      obtain ⟨M7, eM7, h⟩ := bd_e h
      refine v_putI (pc := 44) hX (hcs 95 (Nat.le_of_ble_eq_true rfl) (Nat.le_of_ble_eq_true rfl)) sh_95 pl_11_152 rfl dX11_type_44 eM7 ?_
      refine v_aload_n (pc := 47) 0 hX dX11_type_47 rfl ?_
      refine v_getI (pc := 48) hX (hcs 95 (Nat.le_of_ble_eq_true rfl) (Nat.le_of_ble_eq_true rfl)) sh_95 fl_11_152 rfl dX11_type_48 ?_
      obtain rfl := Option.some.inj h
      exact v_iret (pc := 51) hX hR dX11_type_51
    · have h := if_t h h4
      refine v_ldc (pc := 23) hX kc_11_75 dX11_type_23 ?_
      obtain rfl := Option.some.inj h
      exact v_iret (pc := 25) hX hR dX11_type_25
  · have h := if_t h h3
    refine v_ldc (pc := 11) hX kc_11_70 dX11_type_11 ?_
    obtain rfl := Option.some.inj h
    exact v_iret (pc := 13) hX hR dX11_type_13
set_option maxHeartbeats 4000000 in
set_option maxRecDepth 100000 in
theorem c_X11_clearText {ad : Nat → Nat} {cs : List Nat} (hcs : ∀ k, 95 ≤ k → k < 96 → k ∈ cs) (M : Mm) (q : Int32 × Mm) (h : fX11_clearText M = some q) : CT ad cs yX11_clearText cX11_clearText 2 (some .int) 0 0 [.ref (ad 95)] M (some (.int q.1)) q.2 := by
  refine CT.of RX11 (by decide +kernel) rfl (Nat.le_of_ble_eq_true rfl) (fun X hX hR => ?_)
  unfold fX11_clearText at h
  show VV X 2 ad cs M 0 [(0, .ref (ad 95))] []
  refine v_aload_n (pc := 0) 0 hX dX11_clearText_0 rfl ?_
  refine v_getI (pc := 1) hX (hcs 95 (Nat.le_of_ble_eq_true rfl) (Nat.le_of_ble_eq_true rfl)) sh_95 fl_11_152 rfl dX11_clearText_1 ?_
  obtain ⟨x1, ex1, h⟩ := bd_e h
  refine v_top ex1 ?_
  refine v_istore_n (pc := 4) [(1, .int x1), (0, .ref (ad 95))] hX dX11_clearText_4 (by decide) rfl ?_
  refine v_aload_n (pc := 5) 1 hX dX11_clearText_5 rfl ?_
  refine v_iconst (pc := 6) hX dX11_clearText_6 ic_0 ?_
  obtain ⟨M2, eM2, h⟩ := bd_e h
  refine v_putI (pc := 7) hX (hcs 95 (Nat.le_of_ble_eq_true rfl) (Nat.le_of_ble_eq_true rfl)) sh_95 pl_11_152 rfl dX11_clearText_7 eM2 ?_
  refine v_iload_n (pc := 10) 0 hX dX11_clearText_10 rfl ?_
  obtain rfl := Option.some.inj h
  exact v_iret (pc := 11) hX hR dX11_clearText_11
set_option maxHeartbeats 4000000 in
set_option maxRecDepth 100000 in
theorem c_X11_letter {ad : Nat → Nat} {cs : List Nat} (hcs : ∀ k, 95 ≤ k → k < 100 → k ∈ cs) (M : Mm) (w1 : Int32) (q : Int32) (h : fX11_letter M w1 = some q) : CT ad cs yX11_letter cX11_letter 2 (some .int) 0 0 [.ref (ad 95), .int w1] M (some (.int q)) M := by
  refine CT.of RX11 (by decide +kernel) rfl (Nat.le_of_ble_eq_true rfl) (fun X hX hR => ?_)
  unfold fX11_letter at h
  show VV X 2 ad cs M 0 [(0, .ref (ad 95)), (1, .int w1)] []
  refine v_iload_n (pc := 0) 1 hX dX11_letter_0 rfl ?_
  refine v_aload_n (pc := 1) 0 hX dX11_letter_1 rfl ?_
  refine v_getI (pc := 2) hX (hcs 95 (Nat.le_of_ble_eq_true rfl) (Nat.le_of_ble_eq_true rfl)) sh_95 fl_11_152 rfl dX11_letter_2 ?_
  refine v_icmp_ge (pc := 5) (tgt := 17) hX dX11_letter_5 (by decide) (fun h1 => ?_) (fun h1 => ?_)
  · have h := if_t h h1
    refine v_iconst (pc := 17) hX dX11_letter_17 ic_m1 ?_
    obtain rfl := Option.some.inj h
    exact v_iret (pc := 18) hX hR dX11_letter_18
  · have h := if_f h h1
    refine v_aload_n (pc := 8) 0 hX dX11_letter_8 rfl ?_
    refine v_getR (pc := 9) (t := 99) hX (hcs 95 (Nat.le_of_ble_eq_true rfl) (Nat.le_of_ble_eq_true rfl)) sh_95 fl_11_19 rfl dX11_letter_9 ?_
    refine v_iload_n (pc := 12) 1 hX dX11_letter_12 rfl ?_
    obtain ⟨g2, h⟩ := gd_e h
    refine v_cald (pc := 13) hX (hcs 99 (Nat.le_of_ble_eq_true rfl) (Nat.le_of_ble_eq_true rfl)) sh_99 g2 rfl dX11_letter_13 ?_
    refine v_goto (pc := 14) (tgt := 18) hX dX11_letter_14 (by decide) ?_
    obtain rfl := Option.some.inj h
    exact v_iret (pc := 18) hX hR dX11_letter_18
set_option maxHeartbeats 4000000 in
set_option maxRecDepth 100000 in
theorem c_X11_isDigit {ad : Nat → Nat} {cs : List Nat} (hcs : ∀ k, 95 ≤ k → k < 100 → k ∈ cs) (M : Mm) (w1 : Int32) (q : Int32) (h : fX11_isDigit M w1 = some q) : CT ad cs yX11_isDigit cX11_isDigit 2 (some .boolean) 1 21 [.ref (ad 95), .int w1] M (some (.int q)) M := by
  refine CT.of RX11 (by decide +kernel) rfl (Nat.le_of_ble_eq_true rfl) (fun X hX hR => ?_)
  unfold fX11_isDigit at h
  show VV X 2 ad cs M 0 [(0, .ref (ad 95)), (1, .int w1)] []
  refine v_aload_n (pc := 0) 0 hX dX11_isDigit_0 rfl ?_
  refine v_iload_n (pc := 1) 1 hX dX11_isDigit_1 rfl ?_
  obtain ⟨x2, h1, h⟩ := b1_e h
  refine v_callV (pc := 2) [.int w1] (some (.int x2)) M hX cv_11_179 (c_X11_letter (sub_cs hcs (Nat.le_of_ble_eq_true rfl) (Nat.le_of_ble_eq_true rfl)) M w1 x2 h1) (hcs 95 (Nat.le_of_ble_eq_true rfl) (Nat.le_of_ble_eq_true rfl)) sh_95 rfl rfl rfl ⟨Nat.le_of_ble_eq_true rfl, Nat.le_of_ble_eq_true rfl⟩ (Nat.le_of_ble_eq_true rfl) dX11_isDigit_2 ?_
  show VV X 2 ad cs M 5 [(0, .ref (ad 95)), (1, .int w1)] [.int x2]
  refine v_bipush (pc := 5) hX dX11_isDigit_5 bp_48 ?_
  refine v_icmp_lt (pc := 7) (tgt := 24) hX dX11_isDigit_7 (by decide) (fun h3 => ?_) (fun h3 => ?_)
  · have h := if_t h h3
    refine v_iconst (pc := 24) hX dX11_isDigit_24 ic_0 ?_
    obtain rfl := Option.some.inj h
    exact v_zret (pc := 25) hX hR (Or.inl rfl) dX11_isDigit_25
  · have h := if_f h h3
    refine v_aload_n (pc := 10) 0 hX dX11_isDigit_10 rfl ?_
    refine v_iload_n (pc := 11) 1 hX dX11_isDigit_11 rfl ?_
    obtain ⟨x5, h4, h⟩ := b1_e h
    refine v_callV (pc := 12) [.int w1] (some (.int x5)) M hX cv_11_179 (c_X11_letter (sub_cs hcs (Nat.le_of_ble_eq_true rfl) (Nat.le_of_ble_eq_true rfl)) M w1 x5 h4) (hcs 95 (Nat.le_of_ble_eq_true rfl) (Nat.le_of_ble_eq_true rfl)) sh_95 rfl rfl rfl ⟨Nat.le_of_ble_eq_true rfl, Nat.le_of_ble_eq_true rfl⟩ (Nat.le_of_ble_eq_true rfl) dX11_isDigit_12 ?_
    show VV X 2 ad cs M 15 [(0, .ref (ad 95)), (1, .int w1)] [.int x5]
    refine v_bipush (pc := 15) hX dX11_isDigit_15 bp_57 ?_
    refine v_icmp_gt (pc := 17) (tgt := 24) hX dX11_isDigit_17 (by decide) (fun h6 => ?_) (fun h6 => ?_)
    · have h := if_t h h6
      refine v_iconst (pc := 24) hX dX11_isDigit_24 ic_0 ?_
      obtain rfl := Option.some.inj h
      exact v_zret (pc := 25) hX hR (Or.inl rfl) dX11_isDigit_25
    · have h := if_f h h6
      refine v_iconst (pc := 20) hX dX11_isDigit_20 ic_1 ?_
      refine v_goto (pc := 21) (tgt := 25) hX dX11_isDigit_21 (by decide) ?_
      obtain rfl := Option.some.inj h
      exact v_zret (pc := 25) hX hR (Or.inr rfl) dX11_isDigit_25
set_option maxHeartbeats 4000000 in
set_option maxRecDepth 100000 in
theorem c_X11_fail {ad : Nat → Nat} {cs : List Nat} (hcs : ∀ k, 95 ≤ k → k < 96 → k ∈ cs) (M : Mm) (w1 : Int32) (q : Mm) (h : fX11_fail M w1 = some q) : CT ad cs yX11_fail cX11_fail 2 none 0 0 [.ref (ad 95), .int w1] M none q := by
  refine CT.of RX11 (by decide +kernel) rfl (Nat.le_of_ble_eq_true rfl) (fun X hX hR => ?_)
  unfold fX11_fail at h
  show VV X 2 ad cs M 0 [(0, .ref (ad 95)), (1, .int w1)] []
  refine v_aload_n (pc := 0) 0 hX dX11_fail_0 rfl ?_
  refine v_getI (pc := 1) hX (hcs 95 (Nat.le_of_ble_eq_true rfl) (Nat.le_of_ble_eq_true rfl)) sh_95 fl_11_170 rfl dX11_fail_1 ?_
  refine v_if_ne (pc := 4) (tgt := 20) hX dX11_fail_4 (by decide) (fun h1 => ?_) (fun h1 => ?_)
  · have h := if_f h h1
    obtain rfl := Option.some.inj h
    exact v_vret (pc := 20) hX hR dX11_fail_20
  · have h := if_t h h1
    refine v_aload_n (pc := 7) 0 hX dX11_fail_7 rfl ?_
    refine v_iload_n (pc := 8) 1 hX dX11_fail_8 rfl ?_
    obtain ⟨M2, eM2, h⟩ := bd_e h
    refine v_putI (pc := 9) hX (hcs 95 (Nat.le_of_ble_eq_true rfl) (Nat.le_of_ble_eq_true rfl)) sh_95 pl_11_170 rfl dX11_fail_9 eM2 ?_
    refine v_aload_n (pc := 12) 0 hX dX11_fail_12 rfl ?_
    refine v_aload_n (pc := 13) 0 hX dX11_fail_13 rfl ?_
    refine v_getI (pc := 14) hX (hcs 95 (Nat.le_of_ble_eq_true rfl) (Nat.le_of_ble_eq_true rfl)) sh_95 fl_11_173 rfl dX11_fail_14 ?_
    obtain ⟨M3, eM3, h⟩ := bd_e h
    refine v_putI (pc := 17) hX (hcs 95 (Nat.le_of_ble_eq_true rfl) (Nat.le_of_ble_eq_true rfl)) sh_95 pl_11_176 rfl dX11_fail_17 eM3 ?_
    obtain rfl := Option.some.inj h
    exact v_vret (pc := 20) hX hR dX11_fail_20
set_option maxHeartbeats 4000000 in
set_option maxRecDepth 100000 in
theorem c_X11_readNumber {ad : Nat → Nat} {cs : List Nat} (hcs : ∀ k, 95 ≤ k → k < 100 → k ∈ cs) (M : Mm) (q : Int32 × Mm) (h : fX11_readNumber M = some q) : CT ad cs yX11_readNumber cX11_readNumber 2 (some .int) 2 42 [.ref (ad 95)] M (some (.int q.1)) q.2 := by
  refine CT.of RX11 (by decide +kernel) rfl (Nat.le_of_ble_eq_true rfl) (fun X hX hR => ?_)
  unfold fX11_readNumber at h
  show VV X 2 ad cs M 0 [(0, .ref (ad 95))] []
  refine v_aload_n (pc := 0) 0 hX dX11_readNumber_0 rfl ?_
  refine v_aload_n (pc := 1) 0 hX dX11_readNumber_1 rfl ?_
  refine v_getI (pc := 2) hX (hcs 95 (Nat.le_of_ble_eq_true rfl) (Nat.le_of_ble_eq_true rfl)) sh_95 fl_11_173 rfl dX11_readNumber_2 ?_
  obtain ⟨x2, h1, h⟩ := b1_e h
  refine v_callV (pc := 5) [.int (M.1 95 12)] (some (.int x2)) M hX cv_11_182 (c_X11_isDigit (sub_cs hcs (Nat.le_of_ble_eq_true rfl) (Nat.le_of_ble_eq_true rfl)) M (M.1 95 12) x2 h1) (hcs 95 (Nat.le_of_ble_eq_true rfl) (Nat.le_of_ble_eq_true rfl)) sh_95 rfl rfl rfl ⟨Nat.le_of_ble_eq_true rfl, Nat.le_of_ble_eq_true rfl⟩ (Nat.le_of_ble_eq_true rfl) dX11_readNumber_5 ?_
  show VV X 2 ad cs M 8 [(0, .ref (ad 95))] [.int x2]
  refine v_if_ne (pc := 8) (tgt := 13) hX dX11_readNumber_8 (by decide) (fun h3 => ?_) (fun h3 => ?_)
  · have h := if_f h h3
    refine v_aload_n (pc := 13) 0 hX dX11_readNumber_13 rfl ?_
    refine v_aload_n (pc := 14) 0 hX dX11_readNumber_14 rfl ?_
    refine v_getI (pc := 15) hX (hcs 95 (Nat.le_of_ble_eq_true rfl) (Nat.le_of_ble_eq_true rfl)) sh_95 fl_11_173 rfl dX11_readNumber_15 ?_
    obtain ⟨x5, h4, h⟩ := b1_e h
    refine v_callV (pc := 18) [.int (M.1 95 12)] (some (.int x5)) M hX cv_11_179 (c_X11_letter (sub_cs hcs (Nat.le_of_ble_eq_true rfl) (Nat.le_of_ble_eq_true rfl)) M (M.1 95 12) x5 h4) (hcs 95 (Nat.le_of_ble_eq_true rfl) (Nat.le_of_ble_eq_true rfl)) sh_95 rfl rfl rfl ⟨Nat.le_of_ble_eq_true rfl, Nat.le_of_ble_eq_true rfl⟩ (Nat.le_of_ble_eq_true rfl) dX11_readNumber_18 ?_
    show VV X 2 ad cs M 21 [(0, .ref (ad 95))] [.int x5]
    refine v_bipush (pc := 21) hX dX11_readNumber_21 bp_48 ?_
    obtain ⟨k6, ek6, h⟩ := bd_e h
    have K7 : ∀ (M8 : Mm), k6 M8 = some q → VV X 2 ad cs M8 31 [(0, .ref (ad 95))] [] := by
      intro M8 h
      subst ek6
      refine v_aload_n (pc := 31) 0 hX dX11_readNumber_31 rfl ?_
      refine v_aload_n (pc := 32) 0 hX dX11_readNumber_32 rfl ?_
      refine v_getI (pc := 33) hX (hcs 95 (Nat.le_of_ble_eq_true rfl) (Nat.le_of_ble_eq_true rfl)) sh_95 fl_11_173 rfl dX11_readNumber_33 ?_
      obtain ⟨x10, h9, h⟩ := b1_e h
      refine v_callV (pc := 36) [.int (M8.1 95 12)] (some (.int x10)) M8 hX cv_11_179 (c_X11_letter (sub_cs hcs (Nat.le_of_ble_eq_true rfl) (Nat.le_of_ble_eq_true rfl)) M8 (M8.1 95 12) x10 h9) (hcs 95 (Nat.le_of_ble_eq_true rfl) (Nat.le_of_ble_eq_true rfl)) sh_95 rfl rfl rfl ⟨Nat.le_of_ble_eq_true rfl, Nat.le_of_ble_eq_true rfl⟩ (Nat.le_of_ble_eq_true rfl) dX11_readNumber_36 ?_
      show VV X 2 ad cs M8 39 [(0, .ref (ad 95))] [.int x10]
      refine v_bipush (pc := 39) hX dX11_readNumber_39 bp_48 ?_
      refine v_isub (pc := 41) hX dX11_readNumber_41 ?_
      obtain ⟨x11, ex11, h⟩ := bd_e h
      refine v_top ex11 ?_
      refine v_istore_n (pc := 42) [(1, .int x11), (0, .ref (ad 95))] hX dX11_readNumber_42 (by decide) rfl ?_
      refine v_aload_n (pc := 43) 1 hX dX11_readNumber_43 rfl ?_
      refine v_dup (pc := 44) hX dX11_readNumber_44 rfl ?_
      refine v_getI (pc := 45) hX (hcs 95 (Nat.le_of_ble_eq_true rfl) (Nat.le_of_ble_eq_true rfl)) sh_95 fl_11_173 rfl dX11_readNumber_45 ?_
      refine v_iconst (pc := 48) hX dX11_readNumber_48 ic_1 ?_
      refine v_iadd (pc := 49) hX dX11_readNumber_49 ?_
      obtain ⟨M12, eM12, h⟩ := bd_e h
      refine v_putI (pc := 50) hX (hcs 95 (Nat.le_of_ble_eq_true rfl) (Nat.le_of_ble_eq_true rfl)) sh_95 pl_11_173 rfl dX11_readNumber_50 eM12 ?_
      refine v_aload_n (pc := 53) 1 hX dX11_readNumber_53 rfl ?_
      refine v_aload_n (pc := 54) 1 hX dX11_readNumber_54 rfl ?_
      refine v_getI (pc := 55) hX (hcs 95 (Nat.le_of_ble_eq_true rfl) (Nat.le_of_ble_eq_true rfl)) sh_95 fl_11_173 rfl dX11_readNumber_55 ?_
      obtain ⟨x14, h13, h⟩ := b1_e h
      refine v_callV (pc := 58) [.int (M12.1 95 12)] (some (.int x14)) M12 hX cv_11_182 (c_X11_isDigit (sub_cs hcs (Nat.le_of_ble_eq_true rfl) (Nat.le_of_ble_eq_true rfl)) M12 (M12.1 95 12) x14 h13) (hcs 95 (Nat.le_of_ble_eq_true rfl) (Nat.le_of_ble_eq_true rfl)) sh_95 rfl rfl rfl ⟨Nat.le_of_ble_eq_true rfl, Nat.le_of_ble_eq_true rfl⟩ (Nat.le_of_ble_eq_true rfl) dX11_readNumber_58 ?_
      show VV X 2 ad cs M12 61 [(1, .int x11), (0, .ref (ad 95))] [.int x14]
      refine v_if_eq (pc := 61) (tgt := 91) hX dX11_readNumber_61 (by decide) (fun h15 => ?_) (fun h15 => ?_)
      · have h := if_t h h15
        refine v_iload_n (pc := 91) 0 hX dX11_readNumber_91 rfl ?_
        obtain rfl := Option.some.inj h
        exact v_iret (pc := 92) hX hR dX11_readNumber_92
      · have h := if_f h h15
        refine v_bipush (pc := 64) hX dX11_readNumber_64 bp_10 ?_
        refine v_iload_n (pc := 66) 0 hX dX11_readNumber_66 rfl ?_
        refine v_imul (pc := 67) hX dX11_readNumber_67 ?_
        refine v_aload_n (pc := 68) 1 hX dX11_readNumber_68 rfl ?_
        refine v_aload_n (pc := 69) 1 hX dX11_readNumber_69 rfl ?_
        refine v_getI (pc := 70) hX (hcs 95 (Nat.le_of_ble_eq_true rfl) (Nat.le_of_ble_eq_true rfl)) sh_95 fl_11_173 rfl dX11_readNumber_70 ?_
        obtain ⟨x17, h16, h⟩ := b1_e h
        refine v_callV (pc := 73) [.int (M12.1 95 12)] (some (.int x17)) M12 hX cv_11_179 (c_X11_letter (sub_cs hcs (Nat.le_of_ble_eq_true rfl) (Nat.le_of_ble_eq_true rfl)) M12 (M12.1 95 12) x17 h16) (hcs 95 (Nat.le_of_ble_eq_true rfl) (Nat.le_of_ble_eq_true rfl)) sh_95 rfl rfl rfl ⟨Nat.le_of_ble_eq_true rfl, Nat.le_of_ble_eq_true rfl⟩ (Nat.le_of_ble_eq_true rfl) dX11_readNumber_73 ?_
        show VV X 2 ad cs M12 76 [(1, .int x11), (0, .ref (ad 95))] [.int x17, .int (10 * x11)]
        refine v_iadd (pc := 76) hX dX11_readNumber_76 ?_
        refine v_bipush (pc := 77) hX dX11_readNumber_77 bp_48 ?_
        refine v_isub (pc := 79) hX dX11_readNumber_79 ?_
        obtain ⟨x18, ex18, h⟩ := bd_e h
        refine v_top ex18 ?_
        refine v_istore_n (pc := 80) [(1, .int x18), (0, .ref (ad 95))] hX dX11_readNumber_80 (by decide) rfl ?_
        refine v_aload_n (pc := 81) 1 hX dX11_readNumber_81 rfl ?_
        refine v_dup (pc := 82) hX dX11_readNumber_82 rfl ?_
        refine v_getI (pc := 83) hX (hcs 95 (Nat.le_of_ble_eq_true rfl) (Nat.le_of_ble_eq_true rfl)) sh_95 fl_11_173 rfl dX11_readNumber_83 ?_
        refine v_iconst (pc := 86) hX dX11_readNumber_86 ic_1 ?_
        refine v_iadd (pc := 87) hX dX11_readNumber_87 ?_
        obtain ⟨M19, eM19, h⟩ := bd_e h
        refine v_putI (pc := 88) hX (hcs 95 (Nat.le_of_ble_eq_true rfl) (Nat.le_of_ble_eq_true rfl)) sh_95 pl_11_173 rfl dX11_readNumber_88 eM19 ?_
        refine v_iload_n (pc := 91) 0 hX dX11_readNumber_91 rfl ?_
        obtain rfl := Option.some.inj h
        exact v_iret (pc := 92) hX hR dX11_readNumber_92
    refine v_icmp_ne (pc := 23) (tgt := 31) hX dX11_readNumber_23 (by decide) (fun h20 => ?_) (fun h20 => ?_)
    · have h := if_f h h20
      exact v_sub [0] rfl (K7 M h)
    · have h := if_t h h20
      refine v_aload_n (pc := 26) 0 hX dX11_readNumber_26 rfl ?_
      refine v_iconst (pc := 27) hX dX11_readNumber_27 ic_1 ?_
      obtain ⟨M22, h21, h⟩ := b1_e h
      refine v_callV (pc := 28) [.int 1] none M22 hX cv_11_185 (c_X11_fail (sub_cs hcs (Nat.le_of_ble_eq_true rfl) (Nat.le_of_ble_eq_true rfl)) M 1 M22 h21) (hcs 95 (Nat.le_of_ble_eq_true rfl) (Nat.le_of_ble_eq_true rfl)) sh_95 rfl rfl rfl ⟨Nat.le_of_ble_eq_true rfl, Nat.le_of_ble_eq_true rfl⟩ (Nat.le_of_ble_eq_true rfl) dX11_readNumber_28 ?_
      show VV X 2 ad cs M22 31 [(0, .ref (ad 95))] []
      exact v_sub [0] rfl (K7 M22 h)
  · have h := if_t h h3
    refine v_iconst (pc := 11) hX dX11_readNumber_11 ic_1 ?_
    obtain rfl := Option.some.inj h
    exact v_iret (pc := 12) hX hR dX11_readNumber_12
