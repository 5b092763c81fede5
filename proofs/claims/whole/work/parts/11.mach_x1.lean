set_option maxHeartbeats 4000000 in
set_option maxRecDepth 100000 in
theorem c_X1_forgetTaken {ad : Nat → Nat} {cs : List Nat} (hcs : ∀ k, 8 ≤ k → k < 11 → k ∈ cs) (M : Mm) (q : Mm) (h : fX1_forgetTaken M = some q) : CT ad cs yX1_forgetTaken cX1_forgetTaken 2 none 0 0 [.ref (ad 8)] M none q := by
  refine CT.of RX1 (by decide +kernel) rfl (Nat.le_of_ble_eq_true rfl) (fun X hX hR => ?_)
  unfold fX1_forgetTaken at h
  show VV X 2 ad cs M 0 [(0, .ref (ad 8))] []
  refine v_iconst (pc := 0) hX dX1_forgetTaken_0 ic_0 ?_
  refine v_istore_n (pc := 1) [(1, .int 0), (0, .ref (ad 8))] hX dX1_forgetTaken_1 (by decide) rfl ?_
  have L7 := v_itr (fX1_forgetTaken_L2) (fun z => VV X 2 ad cs z.2 2 [(0, .ref (ad 8)), (1, .int z.1)] []) (fun z => VV X 2 ad cs z 21 [] []) (by
    rintro ⟨x1, M2⟩ q h hK
    unfold fX1_forgetTaken_L2 at h
    have h := u2_b h
    show VV X 2 ad cs M2 2 [(0, .ref (ad 8)), (1, .int x1)] []
    refine v_iload_n (pc := 2) 1 hX dX1_forgetTaken_2 rfl ?_
    refine v_bipush (pc := 3) hX dX1_forgetTaken_3 bp_8 ?_
    refine v_icmp_ge (pc := 5) (tgt := 21) hX dX1_forgetTaken_5 (by decide) (fun h3 => ?_) (fun h3 => ?_)
    · have h := if_t h h3
      obtain rfl := Option.some.inj h
      exact v_sub [] rfl hK
    · have h := if_f h h3
      refine v_aload_n (pc := 8) 0 hX dX1_forgetTaken_8 rfl ?_
      refine v_getR (pc := 9) (t := 10) hX (hcs 8 (Nat.le_of_ble_eq_true rfl) (Nat.le_of_ble_eq_true rfl)) sh_8 fl_1_15 rfl dX1_forgetTaken_9 ?_
      refine v_iload_n (pc := 12) 1 hX dX1_forgetTaken_12 rfl ?_
      refine v_iconst (pc := 13) hX dX1_forgetTaken_13 ic_0 ?_
      obtain ⟨g4, h⟩ := gd_e h
      obtain ⟨M5, eM5, h⟩ := bd_e h
      refine v_iast (pc := 14) hX (hcs 10 (Nat.le_of_ble_eq_true rfl) (Nat.le_of_ble_eq_true rfl)) sh_10 g4 rfl dX1_forgetTaken_14 eM5 ?_
      obtain ⟨x6, ex6, h⟩ := bd_e h
      refine v_iinc (v := x6) (pc := 15) 1 [(1, .int x6), (0, .ref (ad 8))] hX dX1_forgetTaken_15 rfl (ex6.trans (by rw [ic_1])) (by decide) rfl ?_
      refine v_goto (pc := 18) (tgt := 2) hX dX1_forgetTaken_18 (by decide) ?_
      obtain rfl := Option.some.inj h
      exact v_sub [1, 0] rfl hK
  )
  obtain ⟨M8, h9, h⟩ := b1_e h
  refine v_sub [1, 0] rfl ?_
  refine L7 1000 _ _ h9 ?_
  show VV X 2 ad cs M8 21 [] []
  obtain rfl := Option.some.inj h
  exact v_vret (pc := 21) hX hR dX1_forgetTaken_21
set_option maxHeartbeats 4000000 in
set_option maxRecDepth 100000 in
theorem c_X10_start {ad : Nat → Nat} {cs : List Nat} (hcs : ∀ k, 0 ≤ k → k < 67 → k ∈ cs) (M : Mm) (w1 : Int32) (w2 : Int32) (w3 : Int32) (w4 : Int32) (q : Int32 × Mm) (h : fX10_start M w1 w2 w3 w4 = some q) : CT ad cs yX10_start cX10_start 5 (some .int) 4 89 [.ref (ad 0), .int w1, .int w2, .int w3, .int w4] M (some (.int q.1)) q.2 := by
  refine CT.of RX10 (by decide +kernel) rfl (Nat.le_of_ble_eq_true rfl) (fun X hX hR => ?_)
  unfold fX10_start at h
  show VV X 5 ad cs M 0 [(0, .ref (ad 0)), (1, .int w1), (2, .int w2), (3, .int w3), (4, .int w4)] []
  refine v_aload_n (pc := 0) 0 hX dX10_start_0 rfl ?_
  refine v_getR (pc := 1) (t := 1) hX (hcs 0 (Nat.le_of_ble_eq_true rfl) (Nat.le_of_ble_eq_true rfl)) sh_0 fl_10_10 rfl dX10_start_1 ?_
  refine v_iload_n (pc := 4) 1 hX dX10_start_4 rfl ?_
  refine v_iload_n (pc := 5) 2 hX dX10_start_5 rfl ?_
  refine v_iload_n (pc := 6) 3 hX dX10_start_6 rfl ?_
  refine v_bipush (pc := 7) hX dX10_start_7 bp_m50 ?_
  refine v_bipush (pc := 9) hX dX10_start_9 bp_50 ?_
  obtain ⟨x2, h1, h⟩ := b1_e h
  refine v_callV (pc := 11) [.int w1, .int w2, .int w3, .int (-50), .int 50] (some (.int x2)) M hX cv_10_75 (c_X6_fit (sub_cs hcs (Nat.le_of_ble_eq_true rfl) (Nat.le_of_ble_eq_true rfl)) M w1 w2 w3 (-50) 50 x2 h1) (hcs 1 (Nat.le_of_ble_eq_true rfl) (Nat.le_of_ble_eq_true rfl)) sh_1 rfl rfl rfl ⟨Nat.le_of_ble_eq_true rfl, Nat.le_of_ble_eq_true rfl⟩ (Nat.le_of_ble_eq_true rfl) dX10_start_11 ?_
  show VV X 5 ad cs M 14 [(0, .ref (ad 0)), (1, .int w1), (2, .int w2), (3, .int w3), (4, .int w4)] [.int x2]
  refine v_if_eq (pc := 14) (tgt := 27) hX dX10_start_14 (by decide) (fun h3 => ?_) (fun h3 => ?_)
  · have h := if_t h h3
    refine v_ldc (pc := 27) hX kc_10_66 dX10_start_27 ?_
    obtain rfl := Option.some.inj h
    exact v_iret (pc := 29) hX hR dX10_start_29
  · have h := if_f h h3
    refine v_iload (pc := 17) 4 hX dX10_start_17 rfl ?_
    refine v_iconst (pc := 19) hX dX10_start_19 ic_0 ?_
    refine v_iconst (pc := 20) hX dX10_start_20 ic_4 ?_
    obtain ⟨x5, h4, h⟩ := b1_e h
    refine v_callS (pc := 21) [.int w4, .int 0, .int 4] (some (.int x5)) M hX cv_10_62 (c_X10_within M w4 0 4 x5 h4) rfl rfl ⟨Nat.le_of_ble_eq_true rfl, Nat.le_of_ble_eq_true rfl⟩ (Nat.le_of_ble_eq_true rfl) dX10_start_21 ?_
    show VV X 5 ad cs M 24 [(0, .ref (ad 0)), (1, .int w1), (2, .int w2), (3, .int w3), (4, .int w4)] [.int x5]
    refine v_if_ne (pc := 24) (tgt := 30) hX dX10_start_24 (by decide) (fun h6 => ?_) (fun h6 => ?_)
    · have h := if_f h h6
      refine v_aload_n (pc := 30) 0 hX dX10_start_30 rfl ?_
      refine v_getR (pc := 31) (t := 14) hX (hcs 0 (Nat.le_of_ble_eq_true rfl) (Nat.le_of_ble_eq_true rfl)) sh_0 fl_10_23 rfl dX10_start_31 ?_
      refine v_aload_n (pc := 34) 0 hX dX10_start_34 rfl ?_
      refine v_getR (pc := 35) (t := 1) hX (hcs 0 (Nat.le_of_ble_eq_true rfl) (Nat.le_of_ble_eq_true rfl)) sh_0 fl_10_10 rfl dX10_start_35 ?_
      obtain ⟨M8, h7, h⟩ := b1_e h
      refine v_callV (pc := 38) [.ref (ad 1)] none M8 hX cv_10_71 (c_X2_push (sub_cs hcs (Nat.le_of_ble_eq_true rfl) (Nat.le_of_ble_eq_true rfl)) M M8 h7) (hcs 14 (Nat.le_of_ble_eq_true rfl) (Nat.le_of_ble_eq_true rfl)) sh_14 rfl rfl rfl ⟨Nat.le_of_ble_eq_true rfl, Nat.le_of_ble_eq_true rfl⟩ (Nat.le_of_ble_eq_true rfl) dX10_start_38 ?_
      show VV X 5 ad cs M8 41 [(0, .ref (ad 0)), (1, .int w1), (2, .int w2), (3, .int w3), (4, .int w4)] []
      refine v_aload_n (pc := 41) 0 hX dX10_start_41 rfl ?_
      refine v_getR (pc := 42) (t := 1) hX (hcs 0 (Nat.le_of_ble_eq_true rfl) (Nat.le_of_ble_eq_true rfl)) sh_0 fl_10_10 rfl dX10_start_42 ?_
      refine v_getR (pc := 45) (t := 11) hX (hcs 1 (Nat.le_of_ble_eq_true rfl) (Nat.le_of_ble_eq_true rfl)) sh_1 fl_10_139 rfl dX10_start_45 ?_
      refine v_iload_n (pc := 48) 1 hX dX10_start_48 rfl ?_
      refine v_iload_n (pc := 49) 2 hX dX10_start_49 rfl ?_
      refine v_iload_n (pc := 50) 3 hX dX10_start_50 rfl ?_
      refine v_iconst (pc := 51) hX dX10_start_51 ic_1 ?_
      refine v_iload (pc := 52) 4 hX dX10_start_52 rfl ?_
      refine v_ishl (pc := 54) hX dX10_start_54 ?_
      obtain ⟨M10, h9, h⟩ := b1_e h
      refine v_callV (pc := 55) [.int w1, .int w2, .int w3, .int (1 <<< (w4 &&& 31))] none M10 hX cv_10_148 (c_X4_begin (sub_cs hcs (Nat.le_of_ble_eq_true rfl) (Nat.le_of_ble_eq_true rfl)) M8 w1 w2 w3 (1 <<< (w4 &&& 31)) M10 h9) (hcs 11 (Nat.le_of_ble_eq_true rfl) (Nat.le_of_ble_eq_true rfl)) sh_11 rfl rfl rfl ⟨Nat.le_of_ble_eq_true rfl, Nat.le_of_ble_eq_true rfl⟩ (Nat.le_of_ble_eq_true rfl) dX10_start_55 ?_
      show VV X 5 ad cs M10 58 [(0, .ref (ad 0)), (1, .int w1), (2, .int w2), (3, .int w3), (4, .int w4)] []
      refine v_aload_n (pc := 58) 0 hX dX10_start_58 rfl ?_
      refine v_getR (pc := 59) (t := 1) hX (hcs 0 (Nat.le_of_ble_eq_true rfl) (Nat.le_of_ble_eq_true rfl)) sh_0 fl_10_10 rfl dX10_start_59 ?_
      refine v_getR (pc := 62) (t := 8) hX (hcs 1 (Nat.le_of_ble_eq_true rfl) (Nat.le_of_ble_eq_true rfl)) sh_1 fl_10_125 rfl dX10_start_62 ?_
      obtain ⟨M12, h11, h⟩ := b1_e h
      refine v_callV (pc := 65) [] none M12 hX cv_10_151 (c_X1_forgetTaken (sub_cs hcs (Nat.le_of_ble_eq_true rfl) (Nat.le_of_ble_eq_true rfl)) M10 M12 h11) (hcs 8 (Nat.le_of_ble_eq_true rfl) (Nat.le_of_ble_eq_true rfl)) sh_8 rfl rfl rfl ⟨Nat.le_of_ble_eq_true rfl, Nat.le_of_ble_eq_true rfl⟩ (Nat.le_of_ble_eq_true rfl) dX10_start_65 ?_
      show VV X 5 ad cs M12 68 [(0, .ref (ad 0)), (1, .int w1), (2, .int w2), (3, .int w3), (4, .int w4)] []
      refine v_aload_n (pc := 68) 0 hX dX10_start_68 rfl ?_
      refine v_getR (pc := 69) (t := 1) hX (hcs 0 (Nat.le_of_ble_eq_true rfl) (Nat.le_of_ble_eq_true rfl)) sh_0 fl_10_10 rfl dX10_start_69 ?_
      obtain ⟨x14, h13, h⟩ := b1_e h
      refine v_callV (pc := 72) [] (some (.int x14)) M12 hX cv_10_117 (c_X6_placeIsAllowed (sub_cs hcs (Nat.le_of_ble_eq_true rfl) (Nat.le_of_ble_eq_true rfl)) M12 x14 h13) (hcs 1 (Nat.le_of_ble_eq_true rfl) (Nat.le_of_ble_eq_true rfl)) sh_1 rfl rfl rfl ⟨Nat.le_of_ble_eq_true rfl, Nat.le_of_ble_eq_true rfl⟩ (Nat.le_of_ble_eq_true rfl) dX10_start_72 ?_
      show VV X 5 ad cs M12 75 [(0, .ref (ad 0)), (1, .int w1), (2, .int w2), (3, .int w3), (4, .int w4)] [.int x14]
      obtain ⟨x16, h15, h⟩ := b1_e h
      refine v_callS (pc := 75) [.int x14] (some (.int x16)) M12 hX cv_10_121 (c_X10_oneIf M12 x14 x16 h15) rfl rfl ⟨Nat.le_of_ble_eq_true rfl, Nat.le_of_ble_eq_true rfl⟩ (Nat.le_of_ble_eq_true rfl) dX10_start_75 ?_
      show VV X 5 ad cs M12 78 [(0, .ref (ad 0)), (1, .int w1), (2, .int w2), (3, .int w3), (4, .int w4)] [.int x16]
      obtain rfl := Option.some.inj h
      exact v_iret (pc := 78) hX hR dX10_start_78
    · have h := if_t h h6
      refine v_ldc (pc := 27) hX kc_10_66 dX10_start_27 ?_
      obtain rfl := Option.some.inj h
      exact v_iret (pc := 29) hX hR dX10_start_29
set_option maxHeartbeats 4000000 in
set_option maxRecDepth 100000 in
theorem c_X10_order {ad : Nat → Nat} {cs : List Nat} (hcs : ∀ k, 0 ≤ k → k < 67 → k ∈ cs) (M : Mm) (w1 : Int32) (w2 : Int32) (q : Int32 × Mm) (h : fX10_order M w1 w2 = some q) : CT ad cs yX10_order cX10_order 4 (some .int) 4 89 [.ref (ad 0), .int w1, .int w2] M (some (.int q.1)) q.2 := by
  refine CT.of RX10 (by decide +kernel) rfl (Nat.le_of_ble_eq_true rfl) (fun X hX hR => ?_)
  unfold fX10_order at h
  show VV X 4 ad cs M 0 [(0, .ref (ad 0)), (1, .int w1), (2, .int w2)] []
  refine v_iload_n (pc := 0) 1 hX dX10_order_0 rfl ?_
  refine v_iconst (pc := 1) hX dX10_order_1 ic_0 ?_
  refine v_iconst (pc := 2) hX dX10_order_2 ic_2 ?_
  obtain ⟨x2, h1, h⟩ := b1_e h
  refine v_callS (pc := 3) [.int w1, .int 0, .int 2] (some (.int x2)) M hX cv_10_62 (c_X10_within M w1 0 2 x2 h1) rfl rfl ⟨Nat.le_of_ble_eq_true rfl, Nat.le_of_ble_eq_true rfl⟩ (Nat.le_of_ble_eq_true rfl) dX10_order_3 ?_
  show VV X 4 ad cs M 6 [(0, .ref (ad 0)), (1, .int w1), (2, .int w2)] [.int x2]
  refine v_if_eq (pc := 6) (tgt := 18) hX dX10_order_6 (by decide) (fun h3 => ?_) (fun h3 => ?_)
  · have h := if_t h h3
    refine v_ldc (pc := 18) hX kc_10_66 dX10_order_18 ?_
    obtain rfl := Option.some.inj h
    exact v_iret (pc := 20) hX hR dX10_order_20
  · have h := if_f h h3
    refine v_iload_n (pc := 9) 2 hX dX10_order_9 rfl ?_
    refine v_iconst (pc := 10) hX dX10_order_10 ic_0 ?_
    refine v_iconst (pc := 11) hX dX10_order_11 ic_1 ?_
    obtain ⟨x5, h4, h⟩ := b1_e h
    refine v_callS (pc := 12) [.int w2, .int 0, .int 1] (some (.int x5)) M hX cv_10_62 (c_X10_within M w2 0 1 x5 h4) rfl rfl ⟨Nat.le_of_ble_eq_true rfl, Nat.le_of_ble_eq_true rfl⟩ (Nat.le_of_ble_eq_true rfl) dX10_order_12 ?_
    show VV X 4 ad cs M 15 [(0, .ref (ad 0)), (1, .int w1), (2, .int w2)] [.int x5]
    refine v_if_ne (pc := 15) (tgt := 21) hX dX10_order_15 (by decide) (fun h6 => ?_) (fun h6 => ?_)
    · have h := if_f h h6
      refine v_bipush (pc := 21) hX dX10_order_21 bp_10 ?_
      refine v_aload_n (pc := 23) 0 hX dX10_order_23 rfl ?_
      refine v_getR (pc := 24) (t := 1) hX (hcs 0 (Nat.le_of_ble_eq_true rfl) (Nat.le_of_ble_eq_true rfl)) sh_0 fl_10_10 rfl dX10_order_24 ?_
      refine v_getI (pc := 27) hX (hcs 1 (Nat.le_of_ble_eq_true rfl) (Nat.le_of_ble_eq_true rfl)) sh_1 fl_10_154 rfl dX10_order_27 ?_
      refine v_imul (pc := 30) hX dX10_order_30 ?_
      refine v_aload_n (pc := 31) 0 hX dX10_order_31 rfl ?_
      refine v_getR (pc := 32) (t := 1) hX (hcs 0 (Nat.le_of_ble_eq_true rfl) (Nat.le_of_ble_eq_true rfl)) sh_0 fl_10_10 rfl dX10_order_32 ?_
      refine v_getI (pc := 35) hX (hcs 1 (Nat.le_of_ble_eq_true rfl) (Nat.le_of_ble_eq_true rfl)) sh_1 fl_10_157 rfl dX10_order_35 ?_
      refine v_iadd (pc := 38) hX dX10_order_38 ?_
      obtain ⟨x7, ex7, h⟩ := bd_e h
      refine v_top ex7 ?_
      refine v_istore_n (pc := 39) [(3, .int x7), (0, .ref (ad 0)), (1, .int w1), (2, .int w2)] hX dX10_order_39 (by decide) rfl ?_
      refine v_aload_n (pc := 40) 1 hX dX10_order_40 rfl ?_
      refine v_getR (pc := 41) (t := 14) hX (hcs 0 (Nat.le_of_ble_eq_true rfl) (Nat.le_of_ble_eq_true rfl)) sh_0 fl_10_23 rfl dX10_order_41 ?_
      refine v_aload_n (pc := 44) 1 hX dX10_order_44 rfl ?_
      refine v_getR (pc := 45) (t := 1) hX (hcs 0 (Nat.le_of_ble_eq_true rfl) (Nat.le_of_ble_eq_true rfl)) sh_0 fl_10_10 rfl dX10_order_45 ?_
      obtain ⟨M9, h8, h⟩ := b1_e h
      refine v_callV (pc := 48) [.ref (ad 1)] none M9 hX cv_10_71 (c_X2_push (sub_cs hcs (Nat.le_of_ble_eq_true rfl) (Nat.le_of_ble_eq_true rfl)) M M9 h8) (hcs 14 (Nat.le_of_ble_eq_true rfl) (Nat.le_of_ble_eq_true rfl)) sh_14 rfl rfl rfl ⟨Nat.le_of_ble_eq_true rfl, Nat.le_of_ble_eq_true rfl⟩ (Nat.le_of_ble_eq_true rfl) dX10_order_48 ?_
      show VV X 4 ad cs M9 51 [(3, .int x7), (0, .ref (ad 0)), (1, .int w1), (2, .int w2)] []
      refine v_aload_n (pc := 51) 1 hX dX10_order_51 rfl ?_
      refine v_getR (pc := 52) (t := 1) hX (hcs 0 (Nat.le_of_ble_eq_true rfl) (Nat.le_of_ble_eq_true rfl)) sh_0 fl_10_10 rfl dX10_order_52 ?_
      refine v_iload_n (pc := 55) 2 hX dX10_order_55 rfl ?_
      obtain ⟨M10, eM10, h⟩ := bd_e h
      refine v_putI (pc := 56) hX (hcs 1 (Nat.le_of_ble_eq_true rfl) (Nat.le_of_ble_eq_true rfl)) sh_1 pl_10_154 rfl dX10_order_56 eM10 ?_
      refine v_aload_n (pc := 59) 1 hX dX10_order_59 rfl ?_
      refine v_getR (pc := 60) (t := 1) hX (hcs 0 (Nat.le_of_ble_eq_true rfl) (Nat.le_of_ble_eq_true rfl)) sh_0 fl_10_10 rfl dX10_order_60 ?_
      refine v_iload_n (pc := 63) 3 hX dX10_order_63 rfl ?_
      obtain ⟨M11, eM11, h⟩ := bd_e h
      refine v_putI (pc := 64) hX (hcs 1 (Nat.le_of_ble_eq_true rfl) (Nat.le_of_ble_eq_true rfl)) sh_1 pl_10_157 rfl dX10_order_64 eM11 ?_
      refine v_iload_n (pc := 67) 0 hX dX10_order_67 rfl ?_
      obtain rfl := Option.some.inj h
      exact v_iret (pc := 68) hX hR dX10_order_68
    · have h := if_t h h6
      refine v_ldc (pc := 18) hX kc_10_66 dX10_order_18 ?_
      obtain rfl := Option.some.inj h
      exact v_iret (pc := 20) hX hR dX10_order_20
set_option maxHeartbeats 4000000 in
set_option maxRecDepth 100000 in
theorem c_X6_canPoll {ad : Nat → Nat} {cs : List Nat} (hcs : ∀ k, 1 ≤ k → k < 13 → k ∈ cs) (M : Mm) (q : Int32) (h : fX6_canPoll M = some q) : CT ad cs yX6_canPoll cX6_canPoll 1 (some .boolean) 3 65 [.ref (ad 1)] M (some (.int q)) M := by
  refine CT.of RX6 (by decide +kernel) rfl (Nat.le_of_ble_eq_true rfl) (fun X hX hR => ?_)
  unfold fX6_canPoll at h
  show VV X 1 ad cs M 0 [(0, .ref (ad 1))] []
  refine v_aload_n (pc := 0) 0 hX dX6_canPoll_0 rfl ?_
  obtain ⟨x2, h1, h⟩ := b1_e h
  refine v_callV (pc := 1) [] (some (.int x2)) M hX cv_6_86 (c_X6_placeIsAllowed (sub_cs hcs (Nat.le_of_ble_eq_true rfl) (Nat.le_of_ble_eq_true rfl)) M x2 h1) (hcs 1 (Nat.le_of_ble_eq_true rfl) (Nat.le_of_ble_eq_true rfl)) sh_1 rfl rfl rfl ⟨Nat.le_of_ble_eq_true rfl, Nat.le_of_ble_eq_true rfl⟩ (Nat.le_of_ble_eq_true rfl) dX6_canPoll_1 ?_
  show VV X 1 ad cs M 4 [(0, .ref (ad 1))] [.int x2]
  refine v_if_eq (pc := 4) (tgt := 21) hX dX6_canPoll_4 (by decide) (fun h3 => ?_) (fun h3 => ?_)
  · have h := if_t h h3
    refine v_iconst (pc := 21) hX dX6_canPoll_21 ic_0 ?_
    obtain rfl := Option.some.inj h
    exact v_zret (pc := 22) hX hR (Or.inl rfl) dX6_canPoll_22
  · have h := if_f h h3
    refine v_aload_n (pc := 7) 0 hX dX6_canPoll_7 rfl ?_
    refine v_getR (pc := 8) (t := 8) hX (hcs 1 (Nat.le_of_ble_eq_true rfl) (Nat.le_of_ble_eq_true rfl)) sh_1 fl_6_28 rfl dX6_canPoll_8 ?_
    refine v_getI (pc := 11) hX (hcs 8 (Nat.le_of_ble_eq_true rfl) (Nat.le_of_ble_eq_true rfl)) sh_8 fl_6_90 rfl dX6_canPoll_11 ?_
    refine v_if_le (pc := 14) (tgt := 21) hX dX6_canPoll_14 (by decide) (fun h4 => ?_) (fun h4 => ?_)
    · have h := if_t h h4
      refine v_iconst (pc := 21) hX dX6_canPoll_21 ic_0 ?_
      obtain rfl := Option.some.inj h
      exact v_zret (pc := 22) hX hR (Or.inl rfl) dX6_canPoll_22
    · have h := if_f h h4
      refine v_iconst (pc := 17) hX dX6_canPoll_17 ic_1 ?_
      refine v_goto (pc := 18) (tgt := 22) hX dX6_canPoll_18 (by decide) ?_
      obtain rfl := Option.some.inj h
      exact v_zret (pc := 22) hX hR (Or.inr rfl) dX6_canPoll_22
set_option maxHeartbeats 4000000 in
set_option maxRecDepth 100000 in
theorem c_X7_raised {ad : Nat → Nat} {cs : List Nat} (M : Mm) (w0 : Int32) (w1 : Int32) (q : Int64) (h : fX7_raised w0 w1 = some q) : CT ad cs yX7_raised cX7_raised 5 (some .long) 0 0 [.int w0, .int w1] M (some (.long q)) M := by
  refine CT.of RX7 (by decide +kernel) rfl (Nat.le_of_ble_eq_true rfl) (fun X hX hR => ?_)
  unfold fX7_raised at h
  show VV X 5 ad cs M 0 [(0, .int w0), (1, .int w1)] []
  refine v_lconst (v := 1) (pc := 0) hX dX7_raised_0 (by decide) ?_
  refine v_lstore_n (pc := 1) [(2, .long 1), (0, .int w0), (1, .int w1)] hX dX7_raised_1 (by decide) rfl ?_
  refine v_iconst (pc := 2) hX dX7_raised_2 ic_0 ?_
  refine v_istore (pc := 3) [(4, .int 0), (2, .long 1), (0, .int w0), (1, .int w1)] hX dX7_raised_3 (by decide) rfl ?_
  have L6 := v_itr (fX7_raised_L5 w1 w0) (fun z => VV X 5 ad cs M 5 [(0, .int w0), (1, .int w1), (2, .long z.1), (4, .int z.2)] []) (fun z => VV X 5 ad cs M 22 [(2, .long z)] []) (by
    rintro ⟨y1, x2⟩ q h hK
    unfold fX7_raised_L5 at h
    have h := u2_b h
    show VV X 5 ad cs M 5 [(0, .int w0), (1, .int w1), (2, .long y1), (4, .int x2)] []
    refine v_iload (pc := 5) 3 hX dX7_raised_5 rfl ?_
    refine v_iload_n (pc := 7) 1 hX dX7_raised_7 rfl ?_
    refine v_icmp_ge (pc := 8) (tgt := 22) hX dX7_raised_8 (by decide) (fun h3 => ?_) (fun h3 => ?_)
    · have h := if_t h h3
      obtain rfl := Option.some.inj h
      exact v_sub [2] rfl hK
    · have h := if_f h h3
      refine v_lload_n (pc := 11) 2 hX dX7_raised_11 rfl ?_
      refine v_iload_n (pc := 12) 0 hX dX7_raised_12 rfl ?_
      refine v_i2l (pc := 13) hX dX7_raised_13 ?_
      refine v_lmul (pc := 14) hX dX7_raised_14 ?_
      obtain ⟨y4, ey4, h⟩ := bd_e h
      refine v_topl ey4 ?_
      refine v_lstore_n (pc := 15) [(2, .long y4), (0, .int w0), (1, .int w1), (4, .int x2)] hX dX7_raised_15 (by decide) rfl ?_
      obtain ⟨x5, ex5, h⟩ := bd_e h
      refine v_iinc (v := x5) (pc := 16) 3 [(4, .int x5), (2, .long y4), (0, .int w0), (1, .int w1)] hX dX7_raised_16 rfl (ex5.trans (by rw [ic_1])) (by decide) rfl ?_
      refine v_goto (pc := 19) (tgt := 5) hX dX7_raised_19 (by decide) ?_
      obtain rfl := Option.some.inj h
      exact v_sub [2, 3, 1, 0] rfl hK
  )
  obtain ⟨y7, h8, h⟩ := b1_e h
  refine v_sub [2, 3, 1, 0] rfl ?_
  refine L6 1000 _ _ h8 ?_
  show VV X 5 ad cs M 22 [(2, .long y7)] []
  refine v_lload_n (pc := 22) 0 hX dX7_raised_22 rfl ?_
  obtain rfl := Option.some.inj h
  exact v_lret (pc := 23) hX hR dX7_raised_23
set_option maxHeartbeats 4000000 in
set_option maxRecDepth 100000 in
theorem c_X7_sumAt {ad : Nat → Nat} {cs : List Nat} (hcs : ∀ k, 2 ≤ k → k < 5 → k ∈ cs) (M : Mm) (w1 : Int32) (w2 : Int32) (w3 : Int32) (w4 : Int32) (q : Int64) (h : fX7_sumAt M w1 w2 w3 w4 = some q) : CT ad cs yX7_sumAt cX7_sumAt 10 (some .long) 1 24 [.ref (ad 2), .int w1, .int w2, .int w3, .int w4] M (some (.long q)) M := by
  refine CT.of RX7 (by decide +kernel) rfl (Nat.le_of_ble_eq_true rfl) (fun X hX hR => ?_)
  unfold fX7_sumAt at h
  show VV X 10 ad cs M 0 [(0, .ref (ad 2)), (1, .int w1), (2, .int w2), (3, .int w3), (4, .int w4)] []
  refine v_lconst (v := 0) (pc := 0) hX dX7_sumAt_0 (by decide) ?_
  refine v_lstore (pc := 1) [(5, .long 0), (0, .ref (ad 2)), (1, .int w1), (2, .int w2), (3, .int w3), (4, .int w4)] hX dX7_sumAt_1 (by decide) rfl ?_
  refine v_iconst (pc := 3) hX dX7_sumAt_3 ic_0 ?_
  refine v_istore (pc := 4) [(7, .int 0), (5, .long 0), (0, .ref (ad 2)), (1, .int w1), (2, .int w2), (3, .int w3), (4, .int w4)] hX dX7_sumAt_4 (by decide) rfl ?_
  have L22 := v_itr (fX7_sumAt_L6 M w4 w1 w2 w3) (fun z => VV X 10 ad cs M 6 [(0, .ref (ad 2)), (1, .int w1), (2, .int w2), (3, .int w3), (4, .int w4), (5, .long z.1), (7, .int z.2)] []) (fun z => VV X 10 ad cs M 116 [(5, .long z)] []) (by
    rintro ⟨y1, x2⟩ q h hK
    unfold fX7_sumAt_L6 at h
    have h := u2_b h
    show VV X 10 ad cs M 6 [(0, .ref (ad 2)), (1, .int w1), (2, .int w2), (3, .int w3), (4, .int w4), (5, .long y1), (7, .int x2)] []
    refine v_iload (pc := 6) 6 hX dX7_sumAt_6 rfl ?_
    refine v_aload_n (pc := 8) 0 hX dX7_sumAt_8 rfl ?_
    refine v_getI (pc := 9) hX (hcs 2 (Nat.le_of_ble_eq_true rfl) (Nat.le_of_ble_eq_true rfl)) sh_2 fl_7_18 rfl dX7_sumAt_9 ?_
    refine v_icmp_ge (pc := 12) (tgt := 116) hX dX7_sumAt_12 (by decide) (fun h3 => ?_) (fun h3 => ?_)
    · have h := if_t h h3
      obtain rfl := Option.some.inj h
      exact v_sub [5] rfl hK
    · have h := if_f h h3
      refine v_iconst (pc := 15) hX dX7_sumAt_15 ic_3 ?_
      refine v_iload (pc := 16) 6 hX dX7_sumAt_16 rfl ?_
      refine v_imul (pc := 18) hX dX7_sumAt_18 ?_
      obtain ⟨x4, ex4, h⟩ := bd_e h
      refine v_top ex4 ?_
      refine v_istore (pc := 19) [(8, .int x4), (0, .ref (ad 2)), (1, .int w1), (2, .int w2), (3, .int w3), (4, .int w4), (5, .long y1), (7, .int x2)] hX dX7_sumAt_19 (by decide) rfl ?_
      refine v_aload_n (pc := 21) 1 hX dX7_sumAt_21 rfl ?_
      refine v_getR (pc := 22) (t := 4) hX (hcs 2 (Nat.le_of_ble_eq_true rfl) (Nat.le_of_ble_eq_true rfl)) sh_2 fl_7_15 rfl dX7_sumAt_22 ?_
      refine v_iload (pc := 25) 0 hX dX7_sumAt_25 rfl ?_
      obtain ⟨g5, h⟩ := gd_e h
      refine v_iald (pc := 27) hX (hcs 4 (Nat.le_of_ble_eq_true rfl) (Nat.le_of_ble_eq_true rfl)) sh_4 g5 rfl dX7_sumAt_27 ?_
      refine v_aload_n (pc := 28) 1 hX dX7_sumAt_28 rfl ?_
      refine v_getR (pc := 29) (t := 4) hX (hcs 2 (Nat.le_of_ble_eq_true rfl) (Nat.le_of_ble_eq_true rfl)) sh_2 fl_7_15 rfl dX7_sumAt_29 ?_
      refine v_iload (pc := 32) 0 hX dX7_sumAt_32 rfl ?_
      refine v_iconst (pc := 34) hX dX7_sumAt_34 ic_1 ?_
      refine v_iadd (pc := 35) hX dX7_sumAt_35 ?_
      obtain ⟨g6, h⟩ := gd_e h
      refine v_iald (pc := 36) hX (hcs 4 (Nat.le_of_ble_eq_true rfl) (Nat.le_of_ble_eq_true rfl)) sh_4 g6 rfl dX7_sumAt_36 ?_
      refine v_iadd (pc := 37) hX dX7_sumAt_37 ?_
      refine v_aload_n (pc := 38) 1 hX dX7_sumAt_38 rfl ?_
      refine v_getR (pc := 39) (t := 4) hX (hcs 2 (Nat.le_of_ble_eq_true rfl) (Nat.le_of_ble_eq_true rfl)) sh_2 fl_7_15 rfl dX7_sumAt_39 ?_
      refine v_iload (pc := 42) 0 hX dX7_sumAt_42 rfl ?_
      refine v_iconst (pc := 44) hX dX7_sumAt_44 ic_2 ?_
      refine v_iadd (pc := 45) hX dX7_sumAt_45 ?_
      obtain ⟨g7, h⟩ := gd_e h
      refine v_iald (pc := 46) hX (hcs 4 (Nat.le_of_ble_eq_true rfl) (Nat.le_of_ble_eq_true rfl)) sh_4 g7 rfl dX7_sumAt_46 ?_
      refine v_iadd (pc := 47) hX dX7_sumAt_47 ?_
      obtain ⟨x8, ex8, h⟩ := bd_e h
      refine v_top ex8 ?_
      refine v_istore (pc := 48) [(9, .int x8), (8, .int x4), (0, .ref (ad 2)), (1, .int w1), (2, .int w2), (3, .int w3), (4, .int w4), (5, .long y1), (7, .int x2)] hX dX7_sumAt_48 (by decide) rfl ?_
      refine v_iload (pc := 50) 0 hX dX7_sumAt_50 rfl ?_
      refine v_iload (pc := 52) 6 hX dX7_sumAt_52 rfl ?_
      obtain ⟨k9, ek9, h⟩ := bd_e h
      have K10 : ∀ (y11 : Int64), k9 y11 = some q → VV X 10 ad cs M 110 [(0, .ref (ad 2)), (1, .int w1), (2, .int w2), (3, .int w3), (4, .int w4), (5, .long y11), (7, .int x2)] [] := by
        intro y11 h
        subst ek9
        obtain ⟨x12, ex12, h⟩ := bd_e h
        refine v_iinc (v := x12) (pc := 110) 6 [(7, .int x12), (0, .ref (ad 2)), (1, .int w1), (2, .int w2), (3, .int w3), (4, .int w4), (5, .long y11)] hX dX7_sumAt_110 rfl (ex12.trans (by rw [ic_1])) (by decide) rfl ?_
        refine v_goto (pc := 113) (tgt := 6) hX dX7_sumAt_113 (by decide) ?_
        obtain rfl := Option.some.inj h
        exact v_sub [1, 2, 3, 4, 5, 6, 0] rfl hK
      refine v_icmp_gt (pc := 54) (tgt := 110) hX dX7_sumAt_54 (by decide) (fun h13 => ?_) (fun h13 => ?_)
      · have h := if_t h h13
        exact v_sub [2, 3, 4, 5, 6, 7, 8] rfl (K10 y1 h)
      · have h := if_f h h13
        refine v_lload (pc := 57) 7 hX dX7_sumAt_57 rfl ?_
        refine v_aload_n (pc := 59) 2 hX dX7_sumAt_59 rfl ?_
        refine v_getR (pc := 60) (t := 3) hX (hcs 2 (Nat.le_of_ble_eq_true rfl) (Nat.le_of_ble_eq_true rfl)) sh_2 fl_7_9 rfl dX7_sumAt_60 ?_
        refine v_iload (pc := 63) 8 hX dX7_sumAt_63 rfl ?_
        obtain ⟨g14, h⟩ := gd_e h
        refine v_iald (pc := 65) hX (hcs 3 (Nat.le_of_ble_eq_true rfl) (Nat.le_of_ble_eq_true rfl)) sh_3 g14 rfl dX7_sumAt_65 ?_
        refine v_i2l (pc := 66) hX dX7_sumAt_66 ?_
        refine v_iload_n (pc := 67) 3 hX dX7_sumAt_67 rfl ?_
        refine v_aload_n (pc := 68) 2 hX dX7_sumAt_68 rfl ?_
        refine v_getR (pc := 69) (t := 4) hX (hcs 2 (Nat.le_of_ble_eq_true rfl) (Nat.le_of_ble_eq_true rfl)) sh_2 fl_7_15 rfl dX7_sumAt_69 ?_
        refine v_iload (pc := 72) 1 hX dX7_sumAt_72 rfl ?_
        refine v_iald (pc := 74) hX (hcs 4 (Nat.le_of_ble_eq_true rfl) (Nat.le_of_ble_eq_true rfl)) sh_4 g5 rfl dX7_sumAt_74 ?_
        obtain ⟨y16, h15, h⟩ := b1_e h
        refine v_callS (pc := 75) [.int w1, .int (M.1 4 (ix x4))] (some (.long y16)) M hX cv_7_32 (c_X7_raised M w1 (M.1 4 (ix x4)) y16 h15) rfl rfl ⟨Nat.le_of_ble_eq_true rfl, Nat.le_of_ble_eq_true rfl⟩ (Nat.le_of_ble_eq_true rfl) dX7_sumAt_75 ?_
        show VV X 10 ad cs M 78 [(9, .int x8), (8, .int x4), (0, .ref (ad 2)), (1, .int w1), (2, .int w2), (3, .int w3), (4, .int w4), (5, .long y1), (7, .int x2)] [.long y16, .long ((M.1 3 (ix x2)).toInt64), .long y1]
        refine v_lmul (pc := 78) hX dX7_sumAt_78 ?_
        refine v_iload_n (pc := 79) 4 hX dX7_sumAt_79 rfl ?_
        refine v_aload_n (pc := 80) 2 hX dX7_sumAt_80 rfl ?_
        refine v_getR (pc := 81) (t := 4) hX (hcs 2 (Nat.le_of_ble_eq_true rfl) (Nat.le_of_ble_eq_true rfl)) sh_2 fl_7_15 rfl dX7_sumAt_81 ?_
        refine v_iload (pc := 84) 1 hX dX7_sumAt_84 rfl ?_
        refine v_iconst (pc := 86) hX dX7_sumAt_86 ic_1 ?_
        refine v_iadd (pc := 87) hX dX7_sumAt_87 ?_
        refine v_iald (pc := 88) hX (hcs 4 (Nat.le_of_ble_eq_true rfl) (Nat.le_of_ble_eq_true rfl)) sh_4 g6 rfl dX7_sumAt_88 ?_
        obtain ⟨y18, h17, h⟩ := b1_e h
        refine v_callS (pc := 89) [.int w2, .int (M.1 4 (ix (x4 + 1)))] (some (.long y18)) M hX cv_7_32 (c_X7_raised M w2 (M.1 4 (ix (x4 + 1))) y18 h17) rfl rfl ⟨Nat.le_of_ble_eq_true rfl, Nat.le_of_ble_eq_true rfl⟩ (Nat.le_of_ble_eq_true rfl) dX7_sumAt_89 ?_
        show VV X 10 ad cs M 92 [(9, .int x8), (8, .int x4), (0, .ref (ad 2)), (1, .int w1), (2, .int w2), (3, .int w3), (4, .int w4), (5, .long y1), (7, .int x2)] [.long y18, .long (((M.1 3 (ix x2)).toInt64) * y16), .long y1]
        refine v_lmul (pc := 92) hX dX7_sumAt_92 ?_
        refine v_iload_n (pc := 93) 5 hX dX7_sumAt_93 rfl ?_
        refine v_aload_n (pc := 94) 2 hX dX7_sumAt_94 rfl ?_
        refine v_getR (pc := 95) (t := 4) hX (hcs 2 (Nat.le_of_ble_eq_true rfl) (Nat.le_of_ble_eq_true rfl)) sh_2 fl_7_15 rfl dX7_sumAt_95 ?_
        refine v_iload (pc := 98) 1 hX dX7_sumAt_98 rfl ?_
        refine v_iconst (pc := 100) hX dX7_sumAt_100 ic_2 ?_
        refine v_iadd (pc := 101) hX dX7_sumAt_101 ?_
        refine v_iald (pc := 102) hX (hcs 4 (Nat.le_of_ble_eq_true rfl) (Nat.le_of_ble_eq_true rfl)) sh_4 g7 rfl dX7_sumAt_102 ?_
        obtain ⟨y20, h19, h⟩ := b1_e h
        refine v_callS (pc := 103) [.int w3, .int (M.1 4 (ix (x4 + 2)))] (some (.long y20)) M hX cv_7_32 (c_X7_raised M w3 (M.1 4 (ix (x4 + 2))) y20 h19) rfl rfl ⟨Nat.le_of_ble_eq_true rfl, Nat.le_of_ble_eq_true rfl⟩ (Nat.le_of_ble_eq_true rfl) dX7_sumAt_103 ?_
        show VV X 10 ad cs M 106 [(9, .int x8), (8, .int x4), (0, .ref (ad 2)), (1, .int w1), (2, .int w2), (3, .int w3), (4, .int w4), (5, .long y1), (7, .int x2)] [.long y20, .long ((((M.1 3 (ix x2)).toInt64) * y16) * y18), .long y1]
        refine v_lmul (pc := 106) hX dX7_sumAt_106 ?_
        refine v_ladd (pc := 107) hX dX7_sumAt_107 ?_
        obtain ⟨y21, ey21, h⟩ := bd_e h
        refine v_topl ey21 ?_
        refine v_lstore (pc := 108) [(5, .long y21), (9, .int x8), (8, .int x4), (0, .ref (ad 2)), (1, .int w1), (2, .int w2), (3, .int w3), (4, .int w4), (7, .int x2)] hX dX7_sumAt_108 (by decide) rfl ?_
        exact v_sub [3, 4, 5, 6, 7, 0, 8] rfl (K10 y21 h)
  )
  obtain ⟨y23, h24, h⟩ := b1_e h
  refine v_sub [2, 3, 4, 5, 6, 1, 0] rfl ?_
  refine L22 1000 _ _ h24 ?_
  show VV X 10 ad cs M 116 [(5, .long y23)] []
  refine v_lload (pc := 116) 0 hX dX7_sumAt_116 rfl ?_
  obtain rfl := Option.some.inj h
  exact v_lret (pc := 118) hX hR dX7_sumAt_118
set_option maxHeartbeats 4000000 in
set_option maxRecDepth 100000 in
theorem c_X6_valueHere {ad : Nat → Nat} {cs : List Nat} (hcs : ∀ k, 1 ≤ k → k < 13 → k ∈ cs) (M : Mm) (q : Int64) (h : fX6_valueHere M = some q) : CT ad cs yX6_valueHere cX6_valueHere 1 (some .long) 2 53 [.ref (ad 1)] M (some (.long q)) M := by
  refine CT.of RX6 (by decide +kernel) rfl (Nat.le_of_ble_eq_true rfl) (fun X hX hR => ?_)
  unfold fX6_valueHere at h
  show VV X 1 ad cs M 0 [(0, .ref (ad 1))] []
  refine v_aload_n (pc := 0) 0 hX dX6_valueHere_0 rfl ?_
  refine v_getR (pc := 1) (t := 2) hX (hcs 1 (Nat.le_of_ble_eq_true rfl) (Nat.le_of_ble_eq_true rfl)) sh_1 fl_6_12 rfl dX6_valueHere_1 ?_
  refine v_aload_n (pc := 4) 0 hX dX6_valueHere_4 rfl ?_
  refine v_getR (pc := 5) (t := 11) hX (hcs 1 (Nat.le_of_ble_eq_true rfl) (Nat.le_of_ble_eq_true rfl)) sh_1 fl_6_35 rfl dX6_valueHere_5 ?_
  refine v_getR (pc := 8) (t := 12) hX (hcs 11 (Nat.le_of_ble_eq_true rfl) (Nat.le_of_ble_eq_true rfl)) sh_11 fl_6_79 rfl dX6_valueHere_8 ?_
  refine v_iconst (pc := 11) hX dX6_valueHere_11 ic_0 ?_
  refine v_iald (pc := 12) hX (hcs 12 (Nat.le_of_ble_eq_true rfl) (Nat.le_of_ble_eq_true rfl)) sh_12 (ib_0 (by decide)) ix_0 dX6_valueHere_12 ?_
  refine v_aload_n (pc := 13) 0 hX dX6_valueHere_13 rfl ?_
  refine v_getR (pc := 14) (t := 11) hX (hcs 1 (Nat.le_of_ble_eq_true rfl) (Nat.le_of_ble_eq_true rfl)) sh_1 fl_6_35 rfl dX6_valueHere_14 ?_
  refine v_getR (pc := 17) (t := 12) hX (hcs 11 (Nat.le_of_ble_eq_true rfl) (Nat.le_of_ble_eq_true rfl)) sh_11 fl_6_79 rfl dX6_valueHere_17 ?_
  refine v_iconst (pc := 20) hX dX6_valueHere_20 ic_1 ?_
  refine v_iald (pc := 21) hX (hcs 12 (Nat.le_of_ble_eq_true rfl) (Nat.le_of_ble_eq_true rfl)) sh_12 (ib_1 (by decide)) ix_1 dX6_valueHere_21 ?_
  refine v_aload_n (pc := 22) 0 hX dX6_valueHere_22 rfl ?_
  refine v_getR (pc := 23) (t := 11) hX (hcs 1 (Nat.le_of_ble_eq_true rfl) (Nat.le_of_ble_eq_true rfl)) sh_1 fl_6_35 rfl dX6_valueHere_23 ?_
  refine v_getR (pc := 26) (t := 12) hX (hcs 11 (Nat.le_of_ble_eq_true rfl) (Nat.le_of_ble_eq_true rfl)) sh_11 fl_6_79 rfl dX6_valueHere_26 ?_
  refine v_iconst (pc := 29) hX dX6_valueHere_29 ic_2 ?_
  refine v_iald (pc := 30) hX (hcs 12 (Nat.le_of_ble_eq_true rfl) (Nat.le_of_ble_eq_true rfl)) sh_12 (ib_2 (by decide)) ix_2 dX6_valueHere_30 ?_
  refine v_iconst (pc := 31) hX dX6_valueHere_31 ic_4 ?_
  obtain ⟨y2, h1, h⟩ := b1_e h
  refine v_callV (pc := 32) [.int (M.1 12 0), .int (M.1 12 1), .int (M.1 12 2), .int 4] (some (.long y2)) M hX cv_6_91 (c_X7_sumAt (sub_cs hcs (Nat.le_of_ble_eq_true rfl) (Nat.le_of_ble_eq_true rfl)) M (M.1 12 0) (M.1 12 1) (M.1 12 2) 4 y2 h1) (hcs 2 (Nat.le_of_ble_eq_true rfl) (Nat.le_of_ble_eq_true rfl)) sh_2 rfl rfl rfl ⟨Nat.le_of_ble_eq_true rfl, Nat.le_of_ble_eq_true rfl⟩ (Nat.le_of_ble_eq_true rfl) dX6_valueHere_32 ?_
  show VV X 1 ad cs M 35 [(0, .ref (ad 1))] [.long y2]
  obtain rfl := Option.some.inj h
  exact v_lret (pc := 35) hX hR dX6_valueHere_35
set_option maxHeartbeats 4000000 in
set_option maxRecDepth 100000 in
theorem c_X6_trialNumber {ad : Nat → Nat} {cs : List Nat} (hcs : ∀ k, 1 ≤ k → k < 13 → k ∈ cs) (M : Mm) (w1 : Int32) (w2 : Int32) (w3 : Int32) (q : Int32) (h : fX6_trialNumber M w1 w2 w3 = some q) : CT ad cs yX6_trialNumber cX6_trialNumber 4 (some .int) 0 0 [.ref (ad 1), .int w1, .int w2, .int w3] M (some (.int q)) M := by
  refine CT.of RX6 (by decide +kernel) rfl (Nat.le_of_ble_eq_true rfl) (fun X hX hR => ?_)
  unfold fX6_trialNumber at h
  show VV X 4 ad cs M 0 [(0, .ref (ad 1)), (1, .int w1), (2, .int w2), (3, .int w3)] []
  refine v_aload_n (pc := 0) 0 hX dX6_trialNumber_0 rfl ?_
  refine v_getR (pc := 1) (t := 11) hX (hcs 1 (Nat.le_of_ble_eq_true rfl) (Nat.le_of_ble_eq_true rfl)) sh_1 fl_6_35 rfl dX6_trialNumber_1 ?_
  refine v_getR (pc := 4) (t := 12) hX (hcs 11 (Nat.le_of_ble_eq_true rfl) (Nat.le_of_ble_eq_true rfl)) sh_11 fl_6_79 rfl dX6_trialNumber_4 ?_
  refine v_iload_n (pc := 7) 2 hX dX6_trialNumber_7 rfl ?_
  obtain ⟨g1, h⟩ := gd_e h
  refine v_iald (pc := 8) hX (hcs 12 (Nat.le_of_ble_eq_true rfl) (Nat.le_of_ble_eq_true rfl)) sh_12 g1 rfl dX6_trialNumber_8 ?_
  refine v_iload_n (pc := 9) 3 hX dX6_trialNumber_9 rfl ?_
  refine v_aload_n (pc := 10) 0 hX dX6_trialNumber_10 rfl ?_
  refine v_getR (pc := 11) (t := 8) hX (hcs 1 (Nat.le_of_ble_eq_true rfl) (Nat.le_of_ble_eq_true rfl)) sh_1 fl_6_28 rfl dX6_trialNumber_11 ?_
  refine v_getR (pc := 14) (t := 9) hX (hcs 8 (Nat.le_of_ble_eq_true rfl) (Nat.le_of_ble_eq_true rfl)) sh_8 fl_6_95 rfl dX6_trialNumber_14 ?_
  refine v_iconst (pc := 17) hX dX6_trialNumber_17 ic_3 ?_
  refine v_iload_n (pc := 18) 1 hX dX6_trialNumber_18 rfl ?_
  refine v_imul (pc := 19) hX dX6_trialNumber_19 ?_
  refine v_iload_n (pc := 20) 2 hX dX6_trialNumber_20 rfl ?_
  refine v_iadd (pc := 21) hX dX6_trialNumber_21 ?_
  obtain ⟨g2, h⟩ := gd_e h
  refine v_iald (pc := 22) hX (hcs 9 (Nat.le_of_ble_eq_true rfl) (Nat.le_of_ble_eq_true rfl)) sh_9 g2 rfl dX6_trialNumber_22 ?_
  refine v_imul (pc := 23) hX dX6_trialNumber_23 ?_
  refine v_iadd (pc := 24) hX dX6_trialNumber_24 ?_
  obtain rfl := Option.some.inj h
  exact v_iret (pc := 25) hX hR dX6_trialNumber_25
set_option maxHeartbeats 4000000 in
set_option maxRecDepth 100000 in
theorem c_X6_rankOf {ad : Nat → Nat} {cs : List Nat} (hcs : ∀ k, 1 ≤ k → k < 12 → k ∈ cs) (M : Mm) (w1 : Int32) (w2 : Int32) (w3 : Int32) (w4 : Int32) (q : Int64) (h : fX6_rankOf M w1 w2 w3 w4 = some q) : CT ad cs yX6_rankOf cX6_rankOf 5 (some .long) 2 53 [.ref (ad 1), .int w1, .int w2, .int w3, .int w4] M (some (.long q)) M := by
  refine CT.of RX6 (by decide +kernel) rfl (Nat.le_of_ble_eq_true rfl) (fun X hX hR => ?_)
  unfold fX6_rankOf at h
  show VV X 5 ad cs M 0 [(0, .ref (ad 1)), (1, .int w1), (2, .int w2), (3, .int w3), (4, .int w4)] []
  refine v_aload_n (pc := 0) 0 hX dX6_rankOf_0 rfl ?_
  refine v_getI (pc := 1) hX (hcs 1 (Nat.le_of_ble_eq_true rfl) (Nat.le_of_ble_eq_true rfl)) sh_1 fl_6_43 rfl dX6_rankOf_1 ?_
  by_cases h1 : (M.1 1 1) = 1
  · have h := if_t h h1
    refine v_lookup (pc := 4) (tgt := 32) (off := 28) hX dX6_rankOf_4 (by decide) (by rw [h1]; decide) (by decide) ?_
    refine v_iload_n (pc := 32) 1 hX dX6_rankOf_32 rfl ?_
    refine v_aload_n (pc := 33) 0 hX dX6_rankOf_33 rfl ?_
    refine v_getR (pc := 34) (t := 11) hX (hcs 1 (Nat.le_of_ble_eq_true rfl) (Nat.le_of_ble_eq_true rfl)) sh_1 fl_6_35 rfl dX6_rankOf_34 ?_
    refine v_getI (pc := 37) hX (hcs 11 (Nat.le_of_ble_eq_true rfl) (Nat.le_of_ble_eq_true rfl)) sh_11 fl_6_98 rfl dX6_rankOf_37 ?_
    refine v_icmp_ne (pc := 40) (tgt := 47) hX dX6_rankOf_40 (by decide) (fun h2 => ?_) (fun h2 => ?_)
    · have h := if_f h h2
      refine v_lconst (v := 1) (pc := 47) hX dX6_rankOf_47 (by decide) ?_
      obtain rfl := Option.some.inj h
      exact v_lret (pc := 48) hX hR dX6_rankOf_48
    · have h := if_t h h2
      refine v_lconst (v := 0) (pc := 43) hX dX6_rankOf_43 (by decide) ?_
      refine v_goto (pc := 44) (tgt := 48) hX dX6_rankOf_44 (by decide) ?_
      obtain rfl := Option.some.inj h
      exact v_lret (pc := 48) hX hR dX6_rankOf_48
  · have h := if_f h h1
    by_cases h3 : (M.1 1 1) = 2
    · have h := if_t h h3
      refine v_lookup (pc := 4) (tgt := 49) (off := 45) hX dX6_rankOf_4 (by decide) (by rw [h3]; decide) (by decide) ?_
      refine v_aload_n (pc := 49) 0 hX dX6_rankOf_49 rfl ?_
      refine v_getR (pc := 50) (t := 2) hX (hcs 1 (Nat.le_of_ble_eq_true rfl) (Nat.le_of_ble_eq_true rfl)) sh_1 fl_6_12 rfl dX6_rankOf_50 ?_
      refine v_iload_n (pc := 53) 2 hX dX6_rankOf_53 rfl ?_
      refine v_iload_n (pc := 54) 3 hX dX6_rankOf_54 rfl ?_
      refine v_iload (pc := 55) 4 hX dX6_rankOf_55 rfl ?_
      refine v_iconst (pc := 57) hX dX6_rankOf_57 ic_2 ?_
      obtain ⟨y5, h4, h⟩ := b1_e h
      refine v_callV (pc := 58) [.int w2, .int w3, .int w4, .int 2] (some (.long y5)) M hX cv_6_91 (c_X7_sumAt (sub_cs hcs (Nat.le_of_ble_eq_true rfl) (Nat.le_of_ble_eq_true rfl)) M w2 w3 w4 2 y5 h4) (hcs 2 (Nat.le_of_ble_eq_true rfl) (Nat.le_of_ble_eq_true rfl)) sh_2 rfl rfl rfl ⟨Nat.le_of_ble_eq_true rfl, Nat.le_of_ble_eq_true rfl⟩ (Nat.le_of_ble_eq_true rfl) dX6_rankOf_58 ?_
      show VV X 5 ad cs M 61 [(0, .ref (ad 1)), (1, .int w1), (2, .int w2), (3, .int w3), (4, .int w4)] [.long y5]
      obtain rfl := Option.some.inj h
      exact v_lret (pc := 61) hX hR dX6_rankOf_61
    · have h := if_f h h3
      refine v_lookup (pc := 4) (tgt := 62) (off := 58) hX dX6_rankOf_4 (by decide) (by rw [show (#[(1, 28), (2, 45)] : Array (Int × Int)).toList = [(1, 28), (2, 45)] from rfl, lv_osw h1 (by decide), lv_osw h3 (by decide)]; rfl) (by decide) ?_
      refine v_lconst (v := 0) (pc := 62) hX dX6_rankOf_62 (by decide) ?_
      obtain rfl := Option.some.inj h
      exact v_lret (pc := 63) hX hR dX6_rankOf_63
set_option maxHeartbeats 4000000 in
set_option maxRecDepth 100000 in
theorem c_X9_insert {ad : Nat → Nat} {cs : List Nat} (hcs : ∀ k, 86 ≤ k → k < 90 → k ∈ cs) (M : Mm) (w1 : Int32) (w2 : Int64) (w3 : Int64) (q : Mm) (h : fX9_insert M w1 w2 w3 = some q) : CT ad cs yX9_insert cX9_insert 7 none 0 0 [.ref (ad 86), .int w1, .long w2, .long w3] M none q := by
  refine CT.of RX9 (by decide +kernel) rfl (Nat.le_of_ble_eq_true rfl) (fun X hX hR => ?_)
  unfold fX9_insert at h
  show VV X 7 ad cs M 0 [(0, .ref (ad 86)), (1, .int w1), (2, .long w2), (4, .long w3)] []
  refine v_aload_n (pc := 0) 0 hX dX9_insert_0 rfl ?_
  refine v_getI (pc := 1) hX (hcs 86 (Nat.le_of_ble_eq_true rfl) (Nat.le_of_ble_eq_true rfl)) sh_86 fl_9_22 rfl dX9_insert_1 ?_
  refine v_bipush (pc := 4) hX dX9_insert_4 bp_8 ?_
  refine v_icmp_lt (pc := 6) (tgt := 10) hX dX9_insert_6 (by decide) (fun h1 => ?_) (fun h1 => ?_)
  · have h := if_t h h1
    refine v_aload_n (pc := 10) 0 hX dX9_insert_10 rfl ?_
    refine v_getI (pc := 11) hX (hcs 86 (Nat.le_of_ble_eq_true rfl) (Nat.le_of_ble_eq_true rfl)) sh_86 fl_9_22 rfl dX9_insert_11 ?_
    obtain ⟨x2, ex2, h⟩ := bd_e h
    refine v_top ex2 ?_
    refine v_istore (pc := 14) [(6, .int x2), (0, .ref (ad 86)), (1, .int w1), (2, .long w2), (4, .long w3)] hX dX9_insert_14 (by decide) rfl ?_
    have L13 := v_itr (fX9_insert_L16 w2) (fun z => VV X 7 ad cs z.2 16 [(0, .ref (ad 86)), (1, .int w1), (2, .long w2), (4, .long w3), (6, .int z.1)] []) (fun z => VV X 7 ad cs z.2 89 [(0, .ref (ad 86)), (1, .int w1), (2, .long w2), (4, .long w3), (6, .int z.1)] []) (by
      rintro ⟨x3, M4⟩ q h hK
      unfold fX9_insert_L16 at h
      have h := u2_b h
      show VV X 7 ad cs M4 16 [(0, .ref (ad 86)), (1, .int w1), (2, .long w2), (4, .long w3), (6, .int x3)] []
      refine v_iload (pc := 16) 4 hX dX9_insert_16 rfl ?_
      refine v_if_le (pc := 18) (tgt := 89) hX dX9_insert_18 (by decide) (fun h5 => ?_) (fun h5 => ?_)
      · have h := if_t h h5
        obtain rfl := Option.some.inj h
        exact v_sub [0, 1, 2, 3, 4] rfl hK
      · have h := if_f h h5
        refine v_aload_n (pc := 21) 0 hX dX9_insert_21 rfl ?_
        refine v_getR (pc := 22) (t := 88) hX (hcs 86 (Nat.le_of_ble_eq_true rfl) (Nat.le_of_ble_eq_true rfl)) sh_86 fl_9_15 rfl dX9_insert_22 ?_
        refine v_iload (pc := 25) 4 hX dX9_insert_25 rfl ?_
        refine v_iconst (pc := 27) hX dX9_insert_27 ic_1 ?_
        refine v_isub (pc := 28) hX dX9_insert_28 ?_
        obtain ⟨g6, h⟩ := gd_e h
        refine v_lald (pc := 29) hX (hcs 88 (Nat.le_of_ble_eq_true rfl) (Nat.le_of_ble_eq_true rfl)) sh_88 g6 rfl dX9_insert_29 ?_
        refine v_lload_n (pc := 30) 2 hX dX9_insert_30 rfl ?_
        refine v_lcmp (pc := 31) hX dX9_insert_31 ?_
        refine v_if_le (pc := 32) (tgt := 89) hX dX9_insert_32 (by decide) (fun h7 => ?_) (fun h7 => ?_)
        · have h := if_t h h7
          obtain rfl := Option.some.inj h
          exact v_sub [0, 1, 2, 3, 4] rfl hK
        · have h := if_f h h7
          refine v_aload_n (pc := 35) 0 hX dX9_insert_35 rfl ?_
          refine v_getR (pc := 36) (t := 87) hX (hcs 86 (Nat.le_of_ble_eq_true rfl) (Nat.le_of_ble_eq_true rfl)) sh_86 fl_9_9 rfl dX9_insert_36 ?_
          refine v_iload (pc := 39) 4 hX dX9_insert_39 rfl ?_
          refine v_aload_n (pc := 41) 0 hX dX9_insert_41 rfl ?_
          refine v_getR (pc := 42) (t := 87) hX (hcs 86 (Nat.le_of_ble_eq_true rfl) (Nat.le_of_ble_eq_true rfl)) sh_86 fl_9_9 rfl dX9_insert_42 ?_
          refine v_iload (pc := 45) 4 hX dX9_insert_45 rfl ?_
          refine v_iconst (pc := 47) hX dX9_insert_47 ic_1 ?_
          refine v_isub (pc := 48) hX dX9_insert_48 ?_
          refine v_iald (pc := 49) hX (hcs 87 (Nat.le_of_ble_eq_true rfl) (Nat.le_of_ble_eq_true rfl)) sh_87 g6 rfl dX9_insert_49 ?_
          obtain ⟨g8, h⟩ := gd_e h
          obtain ⟨M9, eM9, h⟩ := bd_e h
          refine v_iast (pc := 50) hX (hcs 87 (Nat.le_of_ble_eq_true rfl) (Nat.le_of_ble_eq_true rfl)) sh_87 g8 rfl dX9_insert_50 eM9 ?_
          refine v_aload_n (pc := 51) 0 hX dX9_insert_51 rfl ?_
          refine v_getR (pc := 52) (t := 88) hX (hcs 86 (Nat.le_of_ble_eq_true rfl) (Nat.le_of_ble_eq_true rfl)) sh_86 fl_9_15 rfl dX9_insert_52 ?_
          refine v_iload (pc := 55) 4 hX dX9_insert_55 rfl ?_
          refine v_aload_n (pc := 57) 0 hX dX9_insert_57 rfl ?_
          refine v_getR (pc := 58) (t := 88) hX (hcs 86 (Nat.le_of_ble_eq_true rfl) (Nat.le_of_ble_eq_true rfl)) sh_86 fl_9_15 rfl dX9_insert_58 ?_
          refine v_iload (pc := 61) 4 hX dX9_insert_61 rfl ?_
          refine v_iconst (pc := 63) hX dX9_insert_63 ic_1 ?_
          refine v_isub (pc := 64) hX dX9_insert_64 ?_
          refine v_lald (pc := 65) hX (hcs 88 (Nat.le_of_ble_eq_true rfl) (Nat.le_of_ble_eq_true rfl)) sh_88 g6 rfl dX9_insert_65 ?_
          obtain ⟨M10, eM10, h⟩ := bd_e h
          refine v_last (pc := 66) hX (hcs 88 (Nat.le_of_ble_eq_true rfl) (Nat.le_of_ble_eq_true rfl)) sh_88 g8 rfl dX9_insert_66 eM10 ?_
          refine v_aload_n (pc := 67) 0 hX dX9_insert_67 rfl ?_
          refine v_getR (pc := 68) (t := 89) hX (hcs 86 (Nat.le_of_ble_eq_true rfl) (Nat.le_of_ble_eq_true rfl)) sh_86 fl_9_19 rfl dX9_insert_68 ?_
          refine v_iload (pc := 71) 4 hX dX9_insert_71 rfl ?_
          refine v_aload_n (pc := 73) 0 hX dX9_insert_73 rfl ?_
          refine v_getR (pc := 74) (t := 89) hX (hcs 86 (Nat.le_of_ble_eq_true rfl) (Nat.le_of_ble_eq_true rfl)) sh_86 fl_9_19 rfl dX9_insert_74 ?_
          refine v_iload (pc := 77) 4 hX dX9_insert_77 rfl ?_
          refine v_iconst (pc := 79) hX dX9_insert_79 ic_1 ?_
          refine v_isub (pc := 80) hX dX9_insert_80 ?_
          refine v_lald (pc := 81) hX (hcs 89 (Nat.le_of_ble_eq_true rfl) (Nat.le_of_ble_eq_true rfl)) sh_89 g6 rfl dX9_insert_81 ?_
          obtain ⟨M11, eM11, h⟩ := bd_e h
          refine v_last (pc := 82) hX (hcs 89 (Nat.le_of_ble_eq_true rfl) (Nat.le_of_ble_eq_true rfl)) sh_89 g8 rfl dX9_insert_82 eM11 ?_
          obtain ⟨x12, ex12, h⟩ := bd_e h
          refine v_iinc (v := x12) (pc := 83) 4 [(6, .int x12), (0, .ref (ad 86)), (1, .int w1), (2, .long w2), (4, .long w3)] hX dX9_insert_83 rfl (ex12.trans (by rw [ic_m1])) (by decide) rfl ?_
          refine v_goto (pc := 86) (tgt := 16) hX dX9_insert_86 (by decide) ?_
          obtain rfl := Option.some.inj h
          exact v_sub [1, 2, 3, 4, 0] rfl hK
    )
    obtain ⟨x14, M15, h21, h⟩ := b2_e h
    refine v_sub [1, 2, 3, 4, 0] rfl ?_
    refine L13 1000 _ _ h21 ?_
    show VV X 7 ad cs M15 89 [(0, .ref (ad 86)), (1, .int w1), (2, .long w2), (4, .long w3), (6, .int x14)] []
    refine v_aload_n (pc := 89) 0 hX dX9_insert_89 rfl ?_
    refine v_getR (pc := 90) (t := 87) hX (hcs 86 (Nat.le_of_ble_eq_true rfl) (Nat.le_of_ble_eq_true rfl)) sh_86 fl_9_9 rfl dX9_insert_90 ?_
    refine v_iload (pc := 93) 4 hX dX9_insert_93 rfl ?_
    refine v_iload_n (pc := 95) 1 hX dX9_insert_95 rfl ?_
    obtain ⟨g16, h⟩ := gd_e h
    obtain ⟨M17, eM17, h⟩ := bd_e h
    refine v_iast (pc := 96) hX (hcs 87 (Nat.le_of_ble_eq_true rfl) (Nat.le_of_ble_eq_true rfl)) sh_87 g16 rfl dX9_insert_96 eM17 ?_
    refine v_aload_n (pc := 97) 0 hX dX9_insert_97 rfl ?_
    refine v_getR (pc := 98) (t := 88) hX (hcs 86 (Nat.le_of_ble_eq_true rfl) (Nat.le_of_ble_eq_true rfl)) sh_86 fl_9_15 rfl dX9_insert_98 ?_
    refine v_iload (pc := 101) 4 hX dX9_insert_101 rfl ?_
    refine v_lload_n (pc := 103) 2 hX dX9_insert_103 rfl ?_
    obtain ⟨M18, eM18, h⟩ := bd_e h
    refine v_last (pc := 104) hX (hcs 88 (Nat.le_of_ble_eq_true rfl) (Nat.le_of_ble_eq_true rfl)) sh_88 g16 rfl dX9_insert_104 eM18 ?_
    refine v_aload_n (pc := 105) 0 hX dX9_insert_105 rfl ?_
    refine v_getR (pc := 106) (t := 89) hX (hcs 86 (Nat.le_of_ble_eq_true rfl) (Nat.le_of_ble_eq_true rfl)) sh_86 fl_9_19 rfl dX9_insert_106 ?_
    refine v_iload (pc := 109) 4 hX dX9_insert_109 rfl ?_
    refine v_lload (pc := 111) 3 hX dX9_insert_111 rfl ?_
    obtain ⟨M19, eM19, h⟩ := bd_e h
    refine v_last (pc := 113) hX (hcs 89 (Nat.le_of_ble_eq_true rfl) (Nat.le_of_ble_eq_true rfl)) sh_89 g16 rfl dX9_insert_113 eM19 ?_
    refine v_aload_n (pc := 114) 0 hX dX9_insert_114 rfl ?_
    refine v_dup (pc := 115) hX dX9_insert_115 rfl ?_
    refine v_getI (pc := 116) hX (hcs 86 (Nat.le_of_ble_eq_true rfl) (Nat.le_of_ble_eq_true rfl)) sh_86 fl_9_22 rfl dX9_insert_116 ?_
    refine v_iconst (pc := 119) hX dX9_insert_119 ic_1 ?_
    refine v_iadd (pc := 120) hX dX9_insert_120 ?_
    obtain ⟨M20, eM20, h⟩ := bd_e h
    refine v_putI (pc := 121) hX (hcs 86 (Nat.le_of_ble_eq_true rfl) (Nat.le_of_ble_eq_true rfl)) sh_86 pl_9_22 rfl dX9_insert_121 eM20 ?_
    obtain rfl := Option.some.inj h
    exact v_vret (pc := 124) hX hR dX9_insert_124
  · have h := if_f h h1
    obtain rfl := Option.some.inj h
    exact v_vret (pc := 9) hX hR dX9_insert_9
set_option maxHeartbeats 4000000 in
set_option maxRecDepth 100000 in
theorem c_X9_gather {ad : Nat → Nat} {cs : List Nat} (hcs : ∀ k, 1 ≤ k → k < 90 → k ∈ cs) (M : Mm) (w2 : Int32) (q : Mm) (h : fX9_gather M w2 = some q) : CT ad cs yX9_gather cX9_gather 7 none 3 77 [.ref (ad 86), .ref (ad 1), .int w2] M none q := by
  refine CT.of RX9 (by decide +kernel) rfl (Nat.le_of_ble_eq_true rfl) (fun X hX hR => ?_)
  unfold fX9_gather at h
  show VV X 7 ad cs M 0 [(0, .ref (ad 86)), (1, .ref (ad 1)), (2, .int w2)] []
  refine v_aload_n (pc := 0) 0 hX dX9_gather_0 rfl ?_
  refine v_iconst (pc := 1) hX dX9_gather_1 ic_0 ?_
  obtain ⟨M1, eM1, h⟩ := bd_e h
  refine v_putI (pc := 2) hX (hcs 86 (Nat.le_of_ble_eq_true rfl) (Nat.le_of_ble_eq_true rfl)) sh_86 pl_9_22 rfl dX9_gather_2 eM1 ?_
  refine v_aload_n (pc := 5) 0 hX dX9_gather_5 rfl ?_
  refine v_aload_n (pc := 6) 1 hX dX9_gather_6 rfl ?_
  obtain ⟨y3, h2, h⟩ := b1_e h
  refine v_callV (pc := 7) [] (some (.long y3)) M1 hX cv_9_26 (c_X6_valueHere (sub_cs hcs (Nat.le_of_ble_eq_true rfl) (Nat.le_of_ble_eq_true rfl)) M1 y3 h2) (hcs 1 (Nat.le_of_ble_eq_true rfl) (Nat.le_of_ble_eq_true rfl)) sh_1 rfl rfl rfl ⟨Nat.le_of_ble_eq_true rfl, Nat.le_of_ble_eq_true rfl⟩ (Nat.le_of_ble_eq_true rfl) dX9_gather_7 ?_
  show VV X 7 ad cs M1 10 [(0, .ref (ad 86)), (1, .ref (ad 1)), (2, .int w2)] [.long y3, .ref (ad 86)]
  obtain ⟨M4, eM4, h⟩ := bd_e h
  refine v_putL (pc := 10) hX (hcs 86 (Nat.le_of_ble_eq_true rfl) (Nat.le_of_ble_eq_true rfl)) sh_86 pl_9_32 rfl dX9_gather_10 eM4 ?_
  refine v_iconst (pc := 13) hX dX9_gather_13 ic_0 ?_
  refine v_istore_n (pc := 14) [(3, .int 0), (0, .ref (ad 86)), (1, .ref (ad 1)), (2, .int w2)] hX dX9_gather_14 (by decide) rfl ?_
  have L27 := v_itr (fX9_gather_L15 w2) (fun z => VV X 7 ad cs z.2 15 [(0, .ref (ad 86)), (1, .ref (ad 1)), (2, .int w2), (3, .int z.1)] []) (fun z => VV X 7 ad cs z 105 [] []) (by
    rintro ⟨x5, M6⟩ q h hK
    unfold fX9_gather_L15 at h
    have h := u2_b h
    show VV X 7 ad cs M6 15 [(0, .ref (ad 86)), (1, .ref (ad 1)), (2, .int w2), (3, .int x5)] []
    refine v_iload_n (pc := 15) 3 hX dX9_gather_15 rfl ?_
    refine v_aload_n (pc := 16) 1 hX dX9_gather_16 rfl ?_
    refine v_getR (pc := 17) (t := 8) hX (hcs 1 (Nat.le_of_ble_eq_true rfl) (Nat.le_of_ble_eq_true rfl)) sh_1 fl_9_35 rfl dX9_gather_17 ?_
    refine v_getI (pc := 20) hX (hcs 8 (Nat.le_of_ble_eq_true rfl) (Nat.le_of_ble_eq_true rfl)) sh_8 fl_9_38 rfl dX9_gather_20 ?_
    refine v_icmp_ge (pc := 23) (tgt := 105) hX dX9_gather_23 (by decide) (fun h7 => ?_) (fun h7 => ?_)
    · have h := if_t h h7
      obtain rfl := Option.some.inj h
      exact v_sub [] rfl hK
    · have h := if_f h h7
      refine v_aload_n (pc := 26) 1 hX dX9_gather_26 rfl ?_
      refine v_iload_n (pc := 27) 3 hX dX9_gather_27 rfl ?_
      refine v_iconst (pc := 28) hX dX9_gather_28 ic_0 ?_
      refine v_iload_n (pc := 29) 2 hX dX9_gather_29 rfl ?_
      obtain ⟨x9, h8, h⟩ := b1_e h
      refine v_callV (pc := 30) [.int x5, .int 0, .int w2] (some (.int x9)) M6 hX cv_9_41 (c_X6_trialNumber (sub_cs hcs (Nat.le_of_ble_eq_true rfl) (Nat.le_of_ble_eq_true rfl)) M6 x5 0 w2 x9 h8) (hcs 1 (Nat.le_of_ble_eq_true rfl) (Nat.le_of_ble_eq_true rfl)) sh_1 rfl rfl rfl ⟨Nat.le_of_ble_eq_true rfl, Nat.le_of_ble_eq_true rfl⟩ (Nat.le_of_ble_eq_true rfl) dX9_gather_30 ?_
      show VV X 7 ad cs M6 33 [(0, .ref (ad 86)), (1, .ref (ad 1)), (2, .int w2), (3, .int x5)] [.int x9]
      refine v_istore (pc := 33) [(4, .int x9), (0, .ref (ad 86)), (1, .ref (ad 1)), (2, .int w2), (3, .int x5)] hX dX9_gather_33 (by decide) rfl ?_
      refine v_aload_n (pc := 35) 2 hX dX9_gather_35 rfl ?_
      refine v_iload_n (pc := 36) 4 hX dX9_gather_36 rfl ?_
      refine v_iconst (pc := 37) hX dX9_gather_37 ic_1 ?_
      refine v_iload_n (pc := 38) 3 hX dX9_gather_38 rfl ?_
      obtain ⟨x11, h10, h⟩ := b1_e h
      refine v_callV (pc := 39) [.int x5, .int 1, .int w2] (some (.int x11)) M6 hX cv_9_41 (c_X6_trialNumber (sub_cs hcs (Nat.le_of_ble_eq_true rfl) (Nat.le_of_ble_eq_true rfl)) M6 x5 1 w2 x11 h10) (hcs 1 (Nat.le_of_ble_eq_true rfl) (Nat.le_of_ble_eq_true rfl)) sh_1 rfl rfl rfl ⟨Nat.le_of_ble_eq_true rfl, Nat.le_of_ble_eq_true rfl⟩ (Nat.le_of_ble_eq_true rfl) dX9_gather_39 ?_
      show VV X 7 ad cs M6 42 [(4, .int x9), (0, .ref (ad 86)), (1, .ref (ad 1)), (2, .int w2), (3, .int x5)] [.int x11]
      refine v_istore (pc := 42) [(5, .int x11), (4, .int x9), (0, .ref (ad 86)), (1, .ref (ad 1)), (2, .int w2), (3, .int x5)] hX dX9_gather_42 (by decide) rfl ?_
      refine v_aload_n (pc := 44) 3 hX dX9_gather_44 rfl ?_
      refine v_iload_n (pc := 45) 5 hX dX9_gather_45 rfl ?_
      refine v_iconst (pc := 46) hX dX9_gather_46 ic_2 ?_
      refine v_iload_n (pc := 47) 4 hX dX9_gather_47 rfl ?_
      obtain ⟨x13, h12, h⟩ := b1_e h
      refine v_callV (pc := 48) [.int x5, .int 2, .int w2] (some (.int x13)) M6 hX cv_9_41 (c_X6_trialNumber (sub_cs hcs (Nat.le_of_ble_eq_true rfl) (Nat.le_of_ble_eq_true rfl)) M6 x5 2 w2 x13 h12) (hcs 1 (Nat.le_of_ble_eq_true rfl) (Nat.le_of_ble_eq_true rfl)) sh_1 rfl rfl rfl ⟨Nat.le_of_ble_eq_true rfl, Nat.le_of_ble_eq_true rfl⟩ (Nat.le_of_ble_eq_true rfl) dX9_gather_48 ?_
      show VV X 7 ad cs M6 51 [(5, .int x11), (4, .int x9), (0, .ref (ad 86)), (1, .ref (ad 1)), (2, .int w2), (3, .int x5)] [.int x13]
      refine v_istore (pc := 51) [(6, .int x13), (5, .int x11), (4, .int x9), (0, .ref (ad 86)), (1, .ref (ad 1)), (2, .int w2), (3, .int x5)] hX dX9_gather_51 (by decide) rfl ?_
      refine v_aload_n (pc := 53) 4 hX dX9_gather_53 rfl ?_
      refine v_getR (pc := 54) (t := 5) hX (hcs 1 (Nat.le_of_ble_eq_true rfl) (Nat.le_of_ble_eq_true rfl)) sh_1 fl_9_45 rfl dX9_gather_54 ?_
      refine v_iload (pc := 57) 2 hX dX9_gather_57 rfl ?_
      refine v_iload (pc := 59) 1 hX dX9_gather_59 rfl ?_
      refine v_iload (pc := 61) 0 hX dX9_gather_61 rfl ?_
      obtain ⟨x15, h14, h⟩ := b1_e h
      refine v_callV (pc := 63) [.int x9, .int x11, .int x13] (some (.int x15)) M6 hX cv_9_49 (c_X0_allow (sub_cs hcs (Nat.le_of_ble_eq_true rfl) (Nat.le_of_ble_eq_true rfl)) M6 x9 x11 x13 x15 h14) (hcs 5 (Nat.le_of_ble_eq_true rfl) (Nat.le_of_ble_eq_true rfl)) sh_5 rfl rfl rfl ⟨Nat.le_of_ble_eq_true rfl, Nat.le_of_ble_eq_true rfl⟩ (Nat.le_of_ble_eq_true rfl) dX9_gather_63 ?_
      show VV X 7 ad cs M6 66 [(6, .int x13), (5, .int x11), (4, .int x9), (0, .ref (ad 86)), (1, .ref (ad 1)), (2, .int w2), (3, .int x5)] [.int x15]
      obtain ⟨k16, ek16, h⟩ := bd_e h
      have K17 : ∀ (M18 : Mm), k16 M18 = some q → VV X 7 ad cs M18 99 [(0, .ref (ad 86)), (1, .ref (ad 1)), (2, .int w2), (3, .int x5)] [] := by
        intro M18 h
        subst ek16
        obtain ⟨x19, ex19, h⟩ := bd_e h
        refine v_iinc (v := x19) (pc := 99) 3 [(3, .int x19), (0, .ref (ad 86)), (1, .ref (ad 1)), (2, .int w2)] hX dX9_gather_99 rfl (ex19.trans (by rw [ic_1])) (by decide) rfl ?_
        refine v_goto (pc := 102) (tgt := 15) hX dX9_gather_102 (by decide) ?_
        obtain rfl := Option.some.inj h
        exact v_sub [1, 2, 3, 0] rfl hK
      refine v_if_eq (pc := 66) (tgt := 99) hX dX9_gather_66 (by decide) (fun h20 => ?_) (fun h20 => ?_)
      · have h := if_t h h20
        exact v_sub [3, 4, 5, 6] rfl (K17 M6 h)
      · have h := if_f h h20
        refine v_aload_n (pc := 69) 3 hX dX9_gather_69 rfl ?_
        refine v_iload_n (pc := 70) 6 hX dX9_gather_70 rfl ?_
        refine v_aload_n (pc := 71) 4 hX dX9_gather_71 rfl ?_
        refine v_iload_n (pc := 72) 6 hX dX9_gather_72 rfl ?_
        refine v_iload (pc := 73) 2 hX dX9_gather_73 rfl ?_
        refine v_iload (pc := 75) 1 hX dX9_gather_75 rfl ?_
        refine v_iload (pc := 77) 0 hX dX9_gather_77 rfl ?_
        obtain ⟨y22, h21, h⟩ := b1_e h
        refine v_callV (pc := 79) [.int x5, .int x9, .int x11, .int x13] (some (.long y22)) M6 hX cv_9_55 (c_X6_rankOf (sub_cs hcs (Nat.le_of_ble_eq_true rfl) (Nat.le_of_ble_eq_true rfl)) M6 x5 x9 x11 x13 y22 h21) (hcs 1 (Nat.le_of_ble_eq_true rfl) (Nat.le_of_ble_eq_true rfl)) sh_1 rfl rfl rfl ⟨Nat.le_of_ble_eq_true rfl, Nat.le_of_ble_eq_true rfl⟩ (Nat.le_of_ble_eq_true rfl) dX9_gather_79 ?_
        show VV X 7 ad cs M6 82 [(6, .int x13), (5, .int x11), (4, .int x9), (0, .ref (ad 86)), (1, .ref (ad 1)), (2, .int w2), (3, .int x5)] [.long y22, .int x5, .ref (ad 86)]
        refine v_aload_n (pc := 82) 4 hX dX9_gather_82 rfl ?_
        refine v_getR (pc := 83) (t := 2) hX (hcs 1 (Nat.le_of_ble_eq_true rfl) (Nat.le_of_ble_eq_true rfl)) sh_1 fl_9_59 rfl dX9_gather_83 ?_
        refine v_iload (pc := 86) 2 hX dX9_gather_86 rfl ?_
        refine v_iload (pc := 88) 1 hX dX9_gather_88 rfl ?_
        refine v_iload (pc := 90) 0 hX dX9_gather_90 rfl ?_
        refine v_iconst (pc := 92) hX dX9_gather_92 ic_4 ?_
        obtain ⟨y24, h23, h⟩ := b1_e h
        refine v_callV (pc := 93) [.int x9, .int x11, .int x13, .int 4] (some (.long y24)) M6 hX cv_9_63 (c_X7_sumAt (sub_cs hcs (Nat.le_of_ble_eq_true rfl) (Nat.le_of_ble_eq_true rfl)) M6 x9 x11 x13 4 y24 h23) (hcs 2 (Nat.le_of_ble_eq_true rfl) (Nat.le_of_ble_eq_true rfl)) sh_2 rfl rfl rfl ⟨Nat.le_of_ble_eq_true rfl, Nat.le_of_ble_eq_true rfl⟩ (Nat.le_of_ble_eq_true rfl) dX9_gather_93 ?_
        show VV X 7 ad cs M6 96 [(6, .int x13), (5, .int x11), (4, .int x9), (0, .ref (ad 86)), (1, .ref (ad 1)), (2, .int w2), (3, .int x5)] [.long y24, .long y22, .int x5, .ref (ad 86)]
        obtain ⟨M26, h25, h⟩ := b1_e h
        refine v_callV (pc := 96) [.int x5, .long y22, .long y24] none M26 hX cv_9_68 (c_X9_insert (sub_cs hcs (Nat.le_of_ble_eq_true rfl) (Nat.le_of_ble_eq_true rfl)) M6 x5 y22 y24 M26 h25) (hcs 86 (Nat.le_of_ble_eq_true rfl) (Nat.le_of_ble_eq_true rfl)) sh_86 rfl rfl rfl ⟨Nat.le_of_ble_eq_true rfl, Nat.le_of_ble_eq_true rfl⟩ (Nat.le_of_ble_eq_true rfl) dX9_gather_96 ?_
        show VV X 7 ad cs M26 99 [(6, .int x13), (5, .int x11), (4, .int x9), (0, .ref (ad 86)), (1, .ref (ad 1)), (2, .int w2), (3, .int x5)] []
        exact v_sub [3, 4, 5, 6] rfl (K17 M26 h)
  )
  obtain ⟨M28, h29, h⟩ := b1_e h
  refine v_sub [1, 2, 3, 0] rfl ?_
  refine L27 1000 _ _ h29 ?_
  show VV X 7 ad cs M28 105 [] []
  obtain rfl := Option.some.inj h
  exact v_vret (pc := 105) hX hR dX9_gather_105
set_option maxHeartbeats 4000000 in
set_option maxRecDepth 100000 in
theorem c_X9_chooseBetter {ad : Nat → Nat} {cs : List Nat} (hcs : ∀ k, 86 ≤ k → k < 90 → k ∈ cs) (M : Mm) (w1 : Int32) (q : Int32 × Mm) (h : fX9_chooseBetter M w1 = some q) : CT ad cs yX9_chooseBetter cX9_chooseBetter 6 (some .int) 0 0 [.ref (ad 86), .int w1] M (some (.int q.1)) q.2 := by
  refine CT.of RX9 (by decide +kernel) rfl (Nat.le_of_ble_eq_true rfl) (fun X hX hR => ?_)
  unfold fX9_chooseBetter at h
  show VV X 6 ad cs M 0 [(0, .ref (ad 86)), (1, .int w1)] []
  refine v_iconst (pc := 0) hX dX9_chooseBetter_0 ic_m1 ?_
  refine v_istore_n (pc := 1) [(2, .int (-1)), (0, .ref (ad 86)), (1, .int w1)] hX dX9_chooseBetter_1 (by decide) rfl ?_
  refine v_aload_n (pc := 2) 1 hX dX9_chooseBetter_2 rfl ?_
  refine v_getL (pc := 3) hX (hcs 86 (Nat.le_of_ble_eq_true rfl) (Nat.le_of_ble_eq_true rfl)) sh_86 fl_9_32 rfl dX9_chooseBetter_3 ?_
  obtain ⟨y1, ey1, h⟩ := bd_e h
  refine v_topl ey1 ?_
  refine v_lstore_n (pc := 6) [(3, .long y1), (2, .int (-1)), (0, .ref (ad 86)), (1, .int w1)] hX dX9_chooseBetter_6 (by decide) rfl ?_
  refine v_aload_n (pc := 7) 2 hX dX9_chooseBetter_7 rfl ?_
  refine v_iconst (pc := 8) hX dX9_chooseBetter_8 ic_0 ?_
  obtain ⟨M2, eM2, h⟩ := bd_e h
  refine v_putI (pc := 9) hX (hcs 86 (Nat.le_of_ble_eq_true rfl) (Nat.le_of_ble_eq_true rfl)) sh_86 pl_9_76 rfl dX9_chooseBetter_9 eM2 ?_
  refine v_iconst (pc := 12) hX dX9_chooseBetter_12 ic_0 ?_
  refine v_istore (pc := 13) [(5, .int 0), (3, .long y1), (2, .int (-1)), (0, .ref (ad 86)), (1, .int w1)] hX dX9_chooseBetter_13 (by decide) rfl ?_
  have L19 := v_itr (fX9_chooseBetter_L15 w1) (fun z => VV X 6 ad cs z.2.2.2 15 [(0, .ref (ad 86)), (1, .int w1), (2, .int z.1), (3, .long z.2.1), (5, .int z.2.2.1)] []) (Sum.elim (fun z => VV X 6 ad cs z.2 66 [(2, .int z.1)] []) (fun z => VV X 6 ad cs z.2 75 [(2, .int z.1)] [])) (by
    rintro ⟨x3, y4, x5, M6⟩ q h hK
    unfold fX9_chooseBetter_L15 at h
    have h := u4_b h
    show VV X 6 ad cs M6 15 [(0, .ref (ad 86)), (1, .int w1), (2, .int x3), (3, .long y4), (5, .int x5)] []
    refine v_iload (pc := 15) 4 hX dX9_chooseBetter_15 rfl ?_
    refine v_aload_n (pc := 17) 0 hX dX9_chooseBetter_17 rfl ?_
    refine v_getI (pc := 18) hX (hcs 86 (Nat.le_of_ble_eq_true rfl) (Nat.le_of_ble_eq_true rfl)) sh_86 fl_9_22 rfl dX9_chooseBetter_18 ?_
    refine v_icmp_ge (pc := 21) (tgt := 75) hX dX9_chooseBetter_21 (by decide) (fun h7 => ?_) (fun h7 => ?_)
    · have h := if_t h h7
      obtain rfl := Option.some.inj h
      exact v_sub [2] rfl hK
    · have h := if_f h h7
      refine v_aload_n (pc := 24) 0 hX dX9_chooseBetter_24 rfl ?_
      refine v_dup (pc := 25) hX dX9_chooseBetter_25 rfl ?_
      refine v_getI (pc := 26) hX (hcs 86 (Nat.le_of_ble_eq_true rfl) (Nat.le_of_ble_eq_true rfl)) sh_86 fl_9_76 rfl dX9_chooseBetter_26 ?_
      refine v_iconst (pc := 29) hX dX9_chooseBetter_29 ic_1 ?_
      refine v_iadd (pc := 30) hX dX9_chooseBetter_30 ?_
      obtain ⟨M8, eM8, h⟩ := bd_e h
      refine v_putI (pc := 31) hX (hcs 86 (Nat.le_of_ble_eq_true rfl) (Nat.le_of_ble_eq_true rfl)) sh_86 pl_9_76 rfl dX9_chooseBetter_31 eM8 ?_
      refine v_aload_n (pc := 34) 0 hX dX9_chooseBetter_34 rfl ?_
      refine v_getR (pc := 35) (t := 89) hX (hcs 86 (Nat.le_of_ble_eq_true rfl) (Nat.le_of_ble_eq_true rfl)) sh_86 fl_9_19 rfl dX9_chooseBetter_35 ?_
      refine v_iload (pc := 38) 4 hX dX9_chooseBetter_38 rfl ?_
      obtain ⟨g9, h⟩ := gd_e h
      refine v_lald (pc := 40) hX (hcs 89 (Nat.le_of_ble_eq_true rfl) (Nat.le_of_ble_eq_true rfl)) sh_89 g9 rfl dX9_chooseBetter_40 ?_
      refine v_lload_n (pc := 41) 3 hX dX9_chooseBetter_41 rfl ?_
      refine v_lcmp (pc := 42) hX dX9_chooseBetter_42 ?_
      obtain ⟨k10, ek10, h⟩ := bd_e h
      have K11 : ∀ (x12 : Int32) (y13 : Int64), k10 x12 y13 = some q → VV X 6 ad cs M8 69 [(0, .ref (ad 86)), (1, .int w1), (2, .int x12), (3, .long y13), (5, .int x5)] [] := by
        intro x12 y13 h
        subst ek10
        obtain ⟨x14, ex14, h⟩ := bd_e h
        refine v_iinc (v := x14) (pc := 69) 4 [(5, .int x14), (0, .ref (ad 86)), (1, .int w1), (2, .int x12), (3, .long y13)] hX dX9_chooseBetter_69 rfl (ex14.trans (by rw [ic_1])) (by decide) rfl ?_
        refine v_goto (pc := 72) (tgt := 15) hX dX9_chooseBetter_72 (by decide) ?_
        obtain rfl := Option.some.inj h
        exact v_sub [1, 2, 3, 4, 0] rfl hK
      refine v_if_ge (pc := 43) (tgt := 69) hX dX9_chooseBetter_43 (by decide) (fun h15 => ?_) (fun h15 => ?_)
      · have h := if_t h h15
        exact v_sub [0, 1, 2, 3, 4] rfl (K11 x3 y4 h)
      · have h := if_f h h15
        refine v_aload_n (pc := 46) 0 hX dX9_chooseBetter_46 rfl ?_
        refine v_getR (pc := 47) (t := 87) hX (hcs 86 (Nat.le_of_ble_eq_true rfl) (Nat.le_of_ble_eq_true rfl)) sh_86 fl_9_9 rfl dX9_chooseBetter_47 ?_
        refine v_iload (pc := 50) 4 hX dX9_chooseBetter_50 rfl ?_
        refine v_iald (pc := 52) hX (hcs 87 (Nat.le_of_ble_eq_true rfl) (Nat.le_of_ble_eq_true rfl)) sh_87 g9 rfl dX9_chooseBetter_52 ?_
        obtain ⟨x16, ex16, h⟩ := bd_e h
        refine v_top ex16 ?_
        refine v_istore_n (pc := 53) [(2, .int x16), (0, .ref (ad 86)), (1, .int w1), (3, .long y4), (5, .int x5)] hX dX9_chooseBetter_53 (by decide) rfl ?_
        refine v_aload_n (pc := 54) 1 hX dX9_chooseBetter_54 rfl ?_
        refine v_getR (pc := 55) (t := 89) hX (hcs 86 (Nat.le_of_ble_eq_true rfl) (Nat.le_of_ble_eq_true rfl)) sh_86 fl_9_19 rfl dX9_chooseBetter_55 ?_
        refine v_iload (pc := 58) 4 hX dX9_chooseBetter_58 rfl ?_
        refine v_lald (pc := 60) hX (hcs 89 (Nat.le_of_ble_eq_true rfl) (Nat.le_of_ble_eq_true rfl)) sh_89 g9 rfl dX9_chooseBetter_60 ?_
        obtain ⟨y17, ey17, h⟩ := bd_e h
        refine v_topl ey17 ?_
        refine v_lstore_n (pc := 61) [(3, .long y17), (2, .int x16), (0, .ref (ad 86)), (1, .int w1), (5, .int x5)] hX dX9_chooseBetter_61 (by decide) rfl ?_
        refine v_iload_n (pc := 62) 3 hX dX9_chooseBetter_62 rfl ?_
        refine v_if_ne (pc := 63) (tgt := 69) hX dX9_chooseBetter_63 (by decide) (fun h18 => ?_) (fun h18 => ?_)
        · have h := if_f h h18
          exact v_sub [2, 3, 1, 0, 4] rfl (K11 x16 y17 h)
        · have h := if_t h h18
          obtain rfl := Option.some.inj h
          exact v_sub [1] rfl hK
  )
  rcases bs_e h with ⟨⟨x20, M21⟩, h24, h⟩ | ⟨⟨x22, M23⟩, h24, h⟩
  · refine v_sub [3, 4, 2, 1, 0] rfl ?_
    refine L19 1000 _ _ h24 ?_
    have h := u2_b h
    show VV X 6 ad cs M21 66 [(2, .int x20)] []
    refine v_goto (pc := 66) (tgt := 75) hX dX9_chooseBetter_66 (by decide) ?_
    refine v_iload_n (pc := 75) 0 hX dX9_chooseBetter_75 rfl ?_
    obtain rfl := Option.some.inj h
    exact v_iret (pc := 76) hX hR dX9_chooseBetter_76
  · refine v_sub [3, 4, 2, 1, 0] rfl ?_
    refine L19 1000 _ _ h24 ?_
    have h := u2_b h
    show VV X 6 ad cs M23 75 [(2, .int x22)] []
    refine v_iload_n (pc := 75) 0 hX dX9_chooseBetter_75 rfl ?_
    obtain rfl := Option.some.inj h
    exact v_iret (pc := 76) hX hR dX9_chooseBetter_76
set_option maxHeartbeats 4000000 in
set_option maxRecDepth 100000 in
theorem c_X4_succeed {ad : Nat → Nat} {cs : List Nat} (hcs : ∀ k, 11 ≤ k → k < 14 → k ∈ cs) (M : Mm) (w1 : Int32) (w2 : Int32) (w3 : Int32) (w4 : Int32) (q : Mm) (h : fX4_succeed M w1 w2 w3 w4 = some q) : CT ad cs yX4_succeed cX4_succeed 5 none 1 26 [.ref (ad 11), .int w1, .int w2, .int w3, .int w4] M none q := by
  refine CT.of RX4 (by decide +kernel) rfl (Nat.le_of_ble_eq_true rfl) (fun X hX hR => ?_)
  unfold fX4_succeed at h
  show VV X 5 ad cs M 0 [(0, .ref (ad 11)), (1, .int w1), (2, .int w2), (3, .int w3), (4, .int w4)] []
  refine v_aload_n (pc := 0) 0 hX dX4_succeed_0 rfl ?_
  refine v_getR (pc := 1) (t := 13) hX (hcs 11 (Nat.le_of_ble_eq_true rfl) (Nat.le_of_ble_eq_true rfl)) sh_11 fl_4_15 rfl dX4_succeed_1 ?_
  refine v_iconst (pc := 4) hX dX4_succeed_4 ic_0 ?_
  refine v_aload_n (pc := 5) 0 hX dX4_succeed_5 rfl ?_
  refine v_getR (pc := 6) (t := 13) hX (hcs 11 (Nat.le_of_ble_eq_true rfl) (Nat.le_of_ble_eq_true rfl)) sh_11 fl_4_15 rfl dX4_succeed_6 ?_
  refine v_iconst (pc := 9) hX dX4_succeed_9 ic_3 ?_
  refine v_bipush (pc := 10) hX dX4_succeed_10 bp_15 ?_
  obtain ⟨M1, eM1, h⟩ := bd_e h
  refine v_copy (pc := 12) hX cm_4_45 (hcs 13 (Nat.le_of_ble_eq_true rfl) (Nat.le_of_ble_eq_true rfl)) (hcs 13 (Nat.le_of_ble_eq_true rfl) (Nat.le_of_ble_eq_true rfl)) sh_13 sh_13 nn_0 nn_3 nn_15 ix_0 ix_3 ix_15 (by decide) (by decide) (Nat.le_of_ble_eq_true rfl) (Nat.le_of_ble_eq_true rfl) dX4_succeed_12 eM1 ?_
  refine v_aload_n (pc := 15) 0 hX dX4_succeed_15 rfl ?_
  refine v_getR (pc := 16) (t := 12) hX (hcs 11 (Nat.le_of_ble_eq_true rfl) (Nat.le_of_ble_eq_true rfl)) sh_11 fl_4_9 rfl dX4_succeed_16 ?_
  refine v_iconst (pc := 19) hX dX4_succeed_19 ic_0 ?_
  refine v_aload_n (pc := 20) 0 hX dX4_succeed_20 rfl ?_
  refine v_getR (pc := 21) (t := 13) hX (hcs 11 (Nat.le_of_ble_eq_true rfl) (Nat.le_of_ble_eq_true rfl)) sh_11 fl_4_15 rfl dX4_succeed_21 ?_
  refine v_iconst (pc := 24) hX dX4_succeed_24 ic_0 ?_
  refine v_iconst (pc := 25) hX dX4_succeed_25 ic_3 ?_
  obtain ⟨M2, eM2, h⟩ := bd_e h
  refine v_copy (pc := 26) hX cm_4_45 (hcs 12 (Nat.le_of_ble_eq_true rfl) (Nat.le_of_ble_eq_true rfl)) (hcs 13 (Nat.le_of_ble_eq_true rfl) (Nat.le_of_ble_eq_true rfl)) sh_12 sh_13 nn_0 nn_0 nn_3 ix_0 ix_0 ix_3 (by decide) (by decide) (Nat.le_of_ble_eq_true rfl) (Nat.le_of_ble_eq_true rfl) dX4_succeed_26 eM2 ?_
  refine v_aload_n (pc := 29) 0 hX dX4_succeed_29 rfl ?_
  refine v_aload_n (pc := 30) 0 hX dX4_succeed_30 rfl ?_
  refine v_getI (pc := 31) hX (hcs 11 (Nat.le_of_ble_eq_true rfl) (Nat.le_of_ble_eq_true rfl)) sh_11 fl_4_38 rfl dX4_succeed_31 ?_
  refine v_iconst (pc := 34) hX dX4_succeed_34 ic_1 ?_
  refine v_iadd (pc := 35) hX dX4_succeed_35 ?_
  refine v_bipush (pc := 36) hX dX4_succeed_36 bp_6 ?_
  refine v_min (pc := 38) hX cm_4_51 (Nat.le_of_ble_eq_true rfl) (Nat.le_of_ble_eq_true rfl) dX4_succeed_38 ?_
  obtain ⟨M3, eM3, h⟩ := bd_e h
  refine v_putI (pc := 41) hX (hcs 11 (Nat.le_of_ble_eq_true rfl) (Nat.le_of_ble_eq_true rfl)) sh_11 pl_4_38 rfl dX4_succeed_41 eM3 ?_
  refine v_aload_n (pc := 44) 0 hX dX4_succeed_44 rfl ?_
  refine v_iload_n (pc := 45) 2 hX dX4_succeed_45 rfl ?_
  refine v_iload_n (pc := 46) 3 hX dX4_succeed_46 rfl ?_
  refine v_iload (pc := 47) 4 hX dX4_succeed_47 rfl ?_
  obtain ⟨M5, h4, h⟩ := b1_e h
  refine v_callV (pc := 49) [.int w2, .int w3, .int w4] none M5 hX cv_4_18 (c_X4_moveTo (sub_cs hcs (Nat.le_of_ble_eq_true rfl) (Nat.le_of_ble_eq_true rfl)) M3 w2 w3 w4 M5 h4) (hcs 11 (Nat.le_of_ble_eq_true rfl) (Nat.le_of_ble_eq_true rfl)) sh_11 rfl rfl rfl ⟨Nat.le_of_ble_eq_true rfl, Nat.le_of_ble_eq_true rfl⟩ (Nat.le_of_ble_eq_true rfl) dX4_succeed_49 ?_
  show VV X 5 ad cs M5 52 [(0, .ref (ad 11)), (1, .int w1), (2, .int w2), (3, .int w3), (4, .int w4)] []
  refine v_aload_n (pc := 52) 0 hX dX4_succeed_52 rfl ?_
  refine v_iconst (pc := 53) hX dX4_succeed_53 ic_2 ?_
  refine v_aload_n (pc := 54) 0 hX dX4_succeed_54 rfl ?_
  refine v_getI (pc := 55) hX (hcs 11 (Nat.le_of_ble_eq_true rfl) (Nat.le_of_ble_eq_true rfl)) sh_11 fl_4_22 rfl dX4_succeed_55 ?_
  refine v_imul (pc := 58) hX dX4_succeed_58 ?_
  refine v_bipush (pc := 59) hX dX4_succeed_59 bp_16 ?_
  refine v_min (pc := 61) hX cm_4_51 (Nat.le_of_ble_eq_true rfl) (Nat.le_of_ble_eq_true rfl) dX4_succeed_61 ?_
  obtain ⟨M6, eM6, h⟩ := bd_e h
  refine v_putI (pc := 64) hX (hcs 11 (Nat.le_of_ble_eq_true rfl) (Nat.le_of_ble_eq_true rfl)) sh_11 pl_4_22 rfl dX4_succeed_64 eM6 ?_
  refine v_aload_n (pc := 67) 0 hX dX4_succeed_67 rfl ?_
  refine v_dup (pc := 68) hX dX4_succeed_68 rfl ?_
  refine v_getI (pc := 69) hX (hcs 11 (Nat.le_of_ble_eq_true rfl) (Nat.le_of_ble_eq_true rfl)) sh_11 fl_4_29 rfl dX4_succeed_69 ?_
  refine v_iconst (pc := 72) hX dX4_succeed_72 ic_1 ?_
  refine v_iadd (pc := 73) hX dX4_succeed_73 ?_
  obtain ⟨M7, eM7, h⟩ := bd_e h
  refine v_putI (pc := 74) hX (hcs 11 (Nat.le_of_ble_eq_true rfl) (Nat.le_of_ble_eq_true rfl)) sh_11 pl_4_29 rfl dX4_succeed_74 eM7 ?_
  refine v_aload_n (pc := 77) 0 hX dX4_succeed_77 rfl ?_
  refine v_iload_n (pc := 78) 1 hX dX4_succeed_78 rfl ?_
  obtain ⟨M8, eM8, h⟩ := bd_e h
  refine v_putI (pc := 79) hX (hcs 11 (Nat.le_of_ble_eq_true rfl) (Nat.le_of_ble_eq_true rfl)) sh_11 pl_4_35 rfl dX4_succeed_79 eM8 ?_
  refine v_aload_n (pc := 82) 0 hX dX4_succeed_82 rfl ?_
  refine v_iconst (pc := 83) hX dX4_succeed_83 ic_0 ?_
  obtain ⟨M9, eM9, h⟩ := bd_e h
  refine v_putZ (pc := 84) hX (hcs 11 (Nat.le_of_ble_eq_true rfl) (Nat.le_of_ble_eq_true rfl)) sh_11 pl_4_41 rfl (Or.inl rfl) dX4_succeed_84 eM9 ?_
  obtain rfl := Option.some.inj h
  exact v_vret (pc := 87) hX hR dX4_succeed_87
set_option maxHeartbeats 4000000 in
set_option maxRecDepth 100000 in
theorem c_X4_fail {ad : Nat → Nat} {cs : List Nat} (hcs : ∀ k, 11 ≤ k → k < 12 → k ∈ cs) (M : Mm) (q : Mm) (h : fX4_fail M = some q) : CT ad cs yX4_fail cX4_fail 1 none 1 21 [.ref (ad 11)] M none q := by
  refine CT.of RX4 (by decide +kernel) rfl (Nat.le_of_ble_eq_true rfl) (fun X hX hR => ?_)
  unfold fX4_fail at h
  show VV X 1 ad cs M 0 [(0, .ref (ad 11))] []
  refine v_aload_n (pc := 0) 0 hX dX4_fail_0 rfl ?_
  refine v_aload_n (pc := 1) 0 hX dX4_fail_1 rfl ?_
  refine v_getI (pc := 2) hX (hcs 11 (Nat.le_of_ble_eq_true rfl) (Nat.le_of_ble_eq_true rfl)) sh_11 fl_4_22 rfl dX4_fail_2 ?_
  refine v_iconst (pc := 5) hX dX4_fail_5 ic_1 ?_
  obtain ⟨k1, ek1, h⟩ := bd_e h
  have K2 : ∀ (x3 : Int32), k1 x3 = some q → VV X 1 ad cs M 14 [(0, .ref (ad 11))] [.int x3, .ref (ad 11)] := by
    intro x3 h
    subst ek1
    obtain ⟨g4, h⟩ := gd_e h
    obtain ⟨M5, eM5, h⟩ := bd_e h
    refine v_putZ (pc := 14) hX (hcs 11 (Nat.le_of_ble_eq_true rfl) (Nat.le_of_ble_eq_true rfl)) sh_11 pl_4_41 rfl g4 dX4_fail_14 eM5 ?_
    refine v_aload_n (pc := 17) 0 hX dX4_fail_17 rfl ?_
    refine v_aload_n (pc := 18) 0 hX dX4_fail_18 rfl ?_
    refine v_getI (pc := 19) hX (hcs 11 (Nat.le_of_ble_eq_true rfl) (Nat.le_of_ble_eq_true rfl)) sh_11 fl_4_22 rfl dX4_fail_19 ?_
    refine v_iconst (pc := 22) hX dX4_fail_22 ic_2 ?_
    refine v_idiv (pc := 23) hX dX4_fail_23 (by decide) ?_
    refine v_iconst (pc := 24) hX dX4_fail_24 ic_1 ?_
    refine v_max (pc := 25) hX cm_4_57 (Nat.le_of_ble_eq_true rfl) (Nat.le_of_ble_eq_true rfl) dX4_fail_25 ?_
    obtain ⟨M6, eM6, h⟩ := bd_e h
    refine v_putI (pc := 28) hX (hcs 11 (Nat.le_of_ble_eq_true rfl) (Nat.le_of_ble_eq_true rfl)) sh_11 pl_4_22 rfl dX4_fail_28 eM6 ?_
    obtain rfl := Option.some.inj h
    exact v_vret (pc := 31) hX hR dX4_fail_31
  refine v_icmp_ne (pc := 6) (tgt := 13) hX dX4_fail_6 (by decide) (fun h7 => ?_) (fun h7 => ?_)
  · have h := if_f h h7
    refine v_iconst (pc := 13) hX dX4_fail_13 ic_0 ?_
    exact v_sub [0] rfl (K2 0 h)
  · have h := if_t h h7
    refine v_iconst (pc := 9) hX dX4_fail_9 ic_1 ?_
    refine v_goto (pc := 10) (tgt := 14) hX dX4_fail_10 (by decide) ?_
    exact v_sub [0] rfl (K2 1 h)
set_option maxHeartbeats 4000000 in
set_option maxRecDepth 100000 in
theorem c_X6_pollOnce {ad : Nat → Nat} {cs : List Nat} (hcs : ∀ k, 1 ≤ k → k < 90 → k ∈ cs) (M : Mm) (q : Int32 × Mm) (h : fX6_pollOnce M = some q) : CT ad cs yX6_pollOnce cX6_pollOnce 4 (some .int) 4 103 [.ref (ad 1), .ref (ad 86)] M (some (.int q.1)) q.2 := by
  refine CT.of RX6 (by decide +kernel) rfl (Nat.le_of_ble_eq_true rfl) (fun X hX hR => ?_)
  unfold fX6_pollOnce at h
  show VV X 4 ad cs M 0 [(0, .ref (ad 1)), (1, .ref (ad 86))] []
  refine v_aload_n (pc := 0) 1 hX dX6_pollOnce_0 rfl ?_
  refine v_aload_n (pc := 1) 0 hX dX6_pollOnce_1 rfl ?_
  refine v_aload_n (pc := 2) 0 hX dX6_pollOnce_2 rfl ?_
  refine v_getR (pc := 3) (t := 11) hX (hcs 1 (Nat.le_of_ble_eq_true rfl) (Nat.le_of_ble_eq_true rfl)) sh_1 fl_6_35 rfl dX6_pollOnce_3 ?_
  refine v_getI (pc := 6) hX (hcs 11 (Nat.le_of_ble_eq_true rfl) (Nat.le_of_ble_eq_true rfl)) sh_11 fl_6_101 rfl dX6_pollOnce_6 ?_
  obtain ⟨M2, h1, h⟩ := b1_e h
  refine v_callV (pc := 9) [.ref (ad 1), .int (M.1 11 1)] none M2 hX cv_6_104 (c_X9_gather (sub_cs hcs (Nat.le_of_ble_eq_true rfl) (Nat.le_of_ble_eq_true rfl)) M (M.1 11 1) M2 h1) (hcs 86 (Nat.le_of_ble_eq_true rfl) (Nat.le_of_ble_eq_true rfl)) sh_86 rfl rfl rfl ⟨Nat.le_of_ble_eq_true rfl, Nat.le_of_ble_eq_true rfl⟩ (Nat.le_of_ble_eq_true rfl) dX6_pollOnce_9 ?_
  show VV X 4 ad cs M2 12 [(0, .ref (ad 1)), (1, .ref (ad 86))] []
  refine v_aload_n (pc := 12) 1 hX dX6_pollOnce_12 rfl ?_
  refine v_aload_n (pc := 13) 0 hX dX6_pollOnce_13 rfl ?_
  refine v_getI (pc := 14) hX (hcs 1 (Nat.le_of_ble_eq_true rfl) (Nat.le_of_ble_eq_true rfl)) sh_1 fl_6_46 rfl dX6_pollOnce_14 ?_
  obtain ⟨x4, M5, h3, h⟩ := b2_e h
  refine v_callV (pc := 17) [.int (M2.1 1 2)] (some (.int x4)) M5 hX cv_6_110 (c_X9_chooseBetter (sub_cs hcs (Nat.le_of_ble_eq_true rfl) (Nat.le_of_ble_eq_true rfl)) M2 (M2.1 1 2) (x4, M5) h3) (hcs 86 (Nat.le_of_ble_eq_true rfl) (Nat.le_of_ble_eq_true rfl)) sh_86 rfl rfl rfl ⟨Nat.le_of_ble_eq_true rfl, Nat.le_of_ble_eq_true rfl⟩ (Nat.le_of_ble_eq_true rfl) dX6_pollOnce_17 ?_
  show VV X 4 ad cs M5 20 [(0, .ref (ad 1)), (1, .ref (ad 86))] [.int x4]
  refine v_istore_n (pc := 20) [(2, .int x4), (0, .ref (ad 1)), (1, .ref (ad 86))] hX dX6_pollOnce_20 (by decide) rfl ?_
  refine v_aload_n (pc := 21) 1 hX dX6_pollOnce_21 rfl ?_
  refine v_getR (pc := 22) (t := 11) hX (hcs 1 (Nat.le_of_ble_eq_true rfl) (Nat.le_of_ble_eq_true rfl)) sh_1 fl_6_35 rfl dX6_pollOnce_22 ?_
  refine v_dup (pc := 25) hX dX6_pollOnce_25 rfl ?_
  refine v_getI (pc := 26) hX (hcs 11 (Nat.le_of_ble_eq_true rfl) (Nat.le_of_ble_eq_true rfl)) sh_11 fl_6_114 rfl dX6_pollOnce_26 ?_
  refine v_iconst (pc := 29) hX dX6_pollOnce_29 ic_1 ?_
  refine v_iadd (pc := 30) hX dX6_pollOnce_30 ?_
  obtain ⟨M6, eM6, h⟩ := bd_e h
  refine v_putI (pc := 31) hX (hcs 11 (Nat.le_of_ble_eq_true rfl) (Nat.le_of_ble_eq_true rfl)) sh_11 pl_6_114 rfl dX6_pollOnce_31 eM6 ?_
  refine v_aload_n (pc := 34) 1 hX dX6_pollOnce_34 rfl ?_
  refine v_getR (pc := 35) (t := 11) hX (hcs 1 (Nat.le_of_ble_eq_true rfl) (Nat.le_of_ble_eq_true rfl)) sh_1 fl_6_35 rfl dX6_pollOnce_35 ?_
  refine v_dup (pc := 38) hX dX6_pollOnce_38 rfl ?_
  refine v_getI (pc := 39) hX (hcs 11 (Nat.le_of_ble_eq_true rfl) (Nat.le_of_ble_eq_true rfl)) sh_11 fl_6_117 rfl dX6_pollOnce_39 ?_
  refine v_aload_n (pc := 42) 2 hX dX6_pollOnce_42 rfl ?_
  refine v_getI (pc := 43) hX (hcs 86 (Nat.le_of_ble_eq_true rfl) (Nat.le_of_ble_eq_true rfl)) sh_86 fl_6_120 rfl dX6_pollOnce_43 ?_
  refine v_iadd (pc := 46) hX dX6_pollOnce_46 ?_
  obtain ⟨M7, eM7, h⟩ := bd_e h
  refine v_putI (pc := 47) hX (hcs 11 (Nat.le_of_ble_eq_true rfl) (Nat.le_of_ble_eq_true rfl)) sh_11 pl_6_117 rfl dX6_pollOnce_47 eM7 ?_
  refine v_iload_n (pc := 50) 0 hX dX6_pollOnce_50 rfl ?_
  refine v_iconst (pc := 51) hX dX6_pollOnce_51 ic_m1 ?_
  refine v_icmp_ne (pc := 52) (tgt := 64) hX dX6_pollOnce_52 (by decide) (fun h8 => ?_) (fun h8 => ?_)
  · have h := if_f h h8
    refine v_aload_n (pc := 64) 1 hX dX6_pollOnce_64 rfl ?_
    refine v_getR (pc := 65) (t := 11) hX (hcs 1 (Nat.le_of_ble_eq_true rfl) (Nat.le_of_ble_eq_true rfl)) sh_1 fl_6_35 rfl dX6_pollOnce_65 ?_
    refine v_getI (pc := 68) hX (hcs 11 (Nat.le_of_ble_eq_true rfl) (Nat.le_of_ble_eq_true rfl)) sh_11 fl_6_101 rfl dX6_pollOnce_68 ?_
    obtain ⟨x9, ex9, h⟩ := bd_e h
    refine v_top ex9 ?_
    refine v_istore_n (pc := 71) [(3, .int x9), (2, .int x4), (0, .ref (ad 1)), (1, .ref (ad 86))] hX dX6_pollOnce_71 (by decide) rfl ?_
    refine v_aload_n (pc := 72) 2 hX dX6_pollOnce_72 rfl ?_
    refine v_getR (pc := 73) (t := 8) hX (hcs 1 (Nat.le_of_ble_eq_true rfl) (Nat.le_of_ble_eq_true rfl)) sh_1 fl_6_28 rfl dX6_pollOnce_73 ?_
    refine v_getR (pc := 76) (t := 10) hX (hcs 8 (Nat.le_of_ble_eq_true rfl) (Nat.le_of_ble_eq_true rfl)) sh_8 fl_6_124 rfl dX6_pollOnce_76 ?_
    refine v_iload_n (pc := 79) 1 hX dX6_pollOnce_79 rfl ?_
    refine v_dup2 (pc := 80) hX dX6_pollOnce_80 rfl rfl ?_
    obtain ⟨g10, h⟩ := gd_e h
    refine v_iald (pc := 81) hX (hcs 10 (Nat.le_of_ble_eq_true rfl) (Nat.le_of_ble_eq_true rfl)) sh_10 g10 rfl dX6_pollOnce_81 ?_
    refine v_iconst (pc := 82) hX dX6_pollOnce_82 ic_1 ?_
    refine v_iadd (pc := 83) hX dX6_pollOnce_83 ?_
    obtain ⟨M11, eM11, h⟩ := bd_e h
    refine v_iast (pc := 84) hX (hcs 10 (Nat.le_of_ble_eq_true rfl) (Nat.le_of_ble_eq_true rfl)) sh_10 g10 rfl dX6_pollOnce_84 eM11 ?_
    refine v_aload_n (pc := 85) 2 hX dX6_pollOnce_85 rfl ?_
    refine v_getR (pc := 86) (t := 11) hX (hcs 1 (Nat.le_of_ble_eq_true rfl) (Nat.le_of_ble_eq_true rfl)) sh_1 fl_6_35 rfl dX6_pollOnce_86 ?_
    refine v_iload_n (pc := 89) 1 hX dX6_pollOnce_89 rfl ?_
    refine v_aload_n (pc := 90) 2 hX dX6_pollOnce_90 rfl ?_
    refine v_iload_n (pc := 91) 1 hX dX6_pollOnce_91 rfl ?_
    refine v_iconst (pc := 92) hX dX6_pollOnce_92 ic_0 ?_
    refine v_iload_n (pc := 93) 0 hX dX6_pollOnce_93 rfl ?_
    obtain ⟨x13, h12, h⟩ := b1_e h
    refine v_callV (pc := 94) [.int x4, .int 0, .int x9] (some (.int x13)) M11 hX cv_6_127 (c_X6_trialNumber (sub_cs hcs (Nat.le_of_ble_eq_true rfl) (Nat.le_of_ble_eq_true rfl)) M11 x4 0 x9 x13 h12) (hcs 1 (Nat.le_of_ble_eq_true rfl) (Nat.le_of_ble_eq_true rfl)) sh_1 rfl rfl rfl ⟨Nat.le_of_ble_eq_true rfl, Nat.le_of_ble_eq_true rfl⟩ (Nat.le_of_ble_eq_true rfl) dX6_pollOnce_94 ?_
    show VV X 4 ad cs M11 97 [(3, .int x9), (2, .int x4), (0, .ref (ad 1)), (1, .ref (ad 86))] [.int x13, .int x4, .ref (ad 11)]
    refine v_aload_n (pc := 97) 2 hX dX6_pollOnce_97 rfl ?_
    refine v_iload_n (pc := 98) 1 hX dX6_pollOnce_98 rfl ?_
    refine v_iconst (pc := 99) hX dX6_pollOnce_99 ic_1 ?_
    refine v_iload_n (pc := 100) 0 hX dX6_pollOnce_100 rfl ?_
    obtain ⟨x15, h14, h⟩ := b1_e h
    refine v_callV (pc := 101) [.int x4, .int 1, .int x9] (some (.int x15)) M11 hX cv_6_127 (c_X6_trialNumber (sub_cs hcs (Nat.le_of_ble_eq_true rfl) (Nat.le_of_ble_eq_true rfl)) M11 x4 1 x9 x15 h14) (hcs 1 (Nat.le_of_ble_eq_true rfl) (Nat.le_of_ble_eq_true rfl)) sh_1 rfl rfl rfl ⟨Nat.le_of_ble_eq_true rfl, Nat.le_of_ble_eq_true rfl⟩ (Nat.le_of_ble_eq_true rfl) dX6_pollOnce_101 ?_
    show VV X 4 ad cs M11 104 [(3, .int x9), (2, .int x4), (0, .ref (ad 1)), (1, .ref (ad 86))] [.int x15, .int x13, .int x4, .ref (ad 11)]
    refine v_aload_n (pc := 104) 2 hX dX6_pollOnce_104 rfl ?_
    refine v_iload_n (pc := 105) 1 hX dX6_pollOnce_105 rfl ?_
    refine v_iconst (pc := 106) hX dX6_pollOnce_106 ic_2 ?_
    refine v_iload_n (pc := 107) 0 hX dX6_pollOnce_107 rfl ?_
    obtain ⟨x17, h16, h⟩ := b1_e h
    refine v_callV (pc := 108) [.int x4, .int 2, .int x9] (some (.int x17)) M11 hX cv_6_127 (c_X6_trialNumber (sub_cs hcs (Nat.le_of_ble_eq_true rfl) (Nat.le_of_ble_eq_true rfl)) M11 x4 2 x9 x17 h16) (hcs 1 (Nat.le_of_ble_eq_true rfl) (Nat.le_of_ble_eq_true rfl)) sh_1 rfl rfl rfl ⟨Nat.le_of_ble_eq_true rfl, Nat.le_of_ble_eq_true rfl⟩ (Nat.le_of_ble_eq_true rfl) dX6_pollOnce_108 ?_
    show VV X 4 ad cs M11 111 [(3, .int x9), (2, .int x4), (0, .ref (ad 1)), (1, .ref (ad 86))] [.int x17, .int x15, .int x13, .int x4, .ref (ad 11)]
    obtain ⟨M19, h18, h⟩ := b1_e h
    refine v_callV (pc := 111) [.int x4, .int x13, .int x15, .int x17] none M19 hX cv_6_131 (c_X4_succeed (sub_cs hcs (Nat.le_of_ble_eq_true rfl) (Nat.le_of_ble_eq_true rfl)) M11 x4 x13 x15 x17 M19 h18) (hcs 11 (Nat.le_of_ble_eq_true rfl) (Nat.le_of_ble_eq_true rfl)) sh_11 rfl rfl rfl ⟨Nat.le_of_ble_eq_true rfl, Nat.le_of_ble_eq_true rfl⟩ (Nat.le_of_ble_eq_true rfl) dX6_pollOnce_111 ?_
    show VV X 4 ad cs M19 114 [(3, .int x9), (2, .int x4), (0, .ref (ad 1)), (1, .ref (ad 86))] []
    refine v_iload_n (pc := 114) 1 hX dX6_pollOnce_114 rfl ?_
    obtain rfl := Option.some.inj h
    exact v_iret (pc := 115) hX hR dX6_pollOnce_115
  · have h := if_t h h8
    refine v_aload_n (pc := 55) 1 hX dX6_pollOnce_55 rfl ?_
    refine v_getR (pc := 56) (t := 11) hX (hcs 1 (Nat.le_of_ble_eq_true rfl) (Nat.le_of_ble_eq_true rfl)) sh_1 fl_6_35 rfl dX6_pollOnce_56 ?_
    obtain ⟨M21, h20, h⟩ := b1_e h
    refine v_callV (pc := 59) [] none M21 hX cv_6_121 (c_X4_fail (sub_cs hcs (Nat.le_of_ble_eq_true rfl) (Nat.le_of_ble_eq_true rfl)) M7 M21 h20) (hcs 11 (Nat.le_of_ble_eq_true rfl) (Nat.le_of_ble_eq_true rfl)) sh_11 rfl rfl rfl ⟨Nat.le_of_ble_eq_true rfl, Nat.le_of_ble_eq_true rfl⟩ (Nat.le_of_ble_eq_true rfl) dX6_pollOnce_59 ?_
    show VV X 4 ad cs M21 62 [(2, .int x4), (0, .ref (ad 1)), (1, .ref (ad 86))] []
    refine v_iconst (pc := 62) hX dX6_pollOnce_62 ic_m1 ?_
    obtain rfl := Option.some.inj h
    exact v_iret (pc := 63) hX hR dX6_pollOnce_63
set_option maxHeartbeats 4000000 in
set_option maxRecDepth 100000 in
theorem c_X10_poll {ad : Nat → Nat} {cs : List Nat} (hcs : ∀ k, 0 ≤ k → k < 90 → k ∈ cs) (M : Mm) (q : Int32 × Mm) (h : fX10_poll M = some q) : CT ad cs yX10_poll cX10_poll 1 (some .int) 5 126 [.ref (ad 0)] M (some (.int q.1)) q.2 := by
  refine CT.of RX10 (by decide +kernel) rfl (Nat.le_of_ble_eq_true rfl) (fun X hX hR => ?_)
  unfold fX10_poll at h
  show VV X 1 ad cs M 0 [(0, .ref (ad 0))] []
  refine v_aload_n (pc := 0) 0 hX dX10_poll_0 rfl ?_
  refine v_getR (pc := 1) (t := 1) hX (hcs 0 (Nat.le_of_ble_eq_true rfl) (Nat.le_of_ble_eq_true rfl)) sh_0 fl_10_10 rfl dX10_poll_1 ?_
  obtain ⟨x2, h1, h⟩ := b1_e h
  refine v_callV (pc := 4) [] (some (.int x2)) M hX cv_10_160 (c_X6_canPoll (sub_cs hcs (Nat.le_of_ble_eq_true rfl) (Nat.le_of_ble_eq_true rfl)) M x2 h1) (hcs 1 (Nat.le_of_ble_eq_true rfl) (Nat.le_of_ble_eq_true rfl)) sh_1 rfl rfl rfl ⟨Nat.le_of_ble_eq_true rfl, Nat.le_of_ble_eq_true rfl⟩ (Nat.le_of_ble_eq_true rfl) dX10_poll_4 ?_
  show VV X 1 ad cs M 7 [(0, .ref (ad 0))] [.int x2]
  refine v_if_ne (pc := 7) (tgt := 13) hX dX10_poll_7 (by decide) (fun h3 => ?_) (fun h3 => ?_)
  · have h := if_f h h3
    refine v_aload_n (pc := 13) 0 hX dX10_poll_13 rfl ?_
    refine v_getR (pc := 14) (t := 14) hX (hcs 0 (Nat.le_of_ble_eq_true rfl) (Nat.le_of_ble_eq_true rfl)) sh_0 fl_10_23 rfl dX10_poll_14 ?_
    refine v_aload_n (pc := 17) 0 hX dX10_poll_17 rfl ?_
    refine v_getR (pc := 18) (t := 1) hX (hcs 0 (Nat.le_of_ble_eq_true rfl) (Nat.le_of_ble_eq_true rfl)) sh_0 fl_10_10 rfl dX10_poll_18 ?_
    obtain ⟨M5, h4, h⟩ := b1_e h
    refine v_callV (pc := 21) [.ref (ad 1)] none M5 hX cv_10_71 (c_X2_push (sub_cs hcs (Nat.le_of_ble_eq_true rfl) (Nat.le_of_ble_eq_true rfl)) M M5 h4) (hcs 14 (Nat.le_of_ble_eq_true rfl) (Nat.le_of_ble_eq_true rfl)) sh_14 rfl rfl rfl ⟨Nat.le_of_ble_eq_true rfl, Nat.le_of_ble_eq_true rfl⟩ (Nat.le_of_ble_eq_true rfl) dX10_poll_21 ?_
    show VV X 1 ad cs M5 24 [(0, .ref (ad 0))] []
    refine v_aload_n (pc := 24) 0 hX dX10_poll_24 rfl ?_
    refine v_getR (pc := 25) (t := 1) hX (hcs 0 (Nat.le_of_ble_eq_true rfl) (Nat.le_of_ble_eq_true rfl)) sh_0 fl_10_10 rfl dX10_poll_25 ?_
    refine v_aload_n (pc := 28) 0 hX dX10_poll_28 rfl ?_
    refine v_getR (pc := 29) (t := 86) hX (hcs 0 (Nat.le_of_ble_eq_true rfl) (Nat.le_of_ble_eq_true rfl)) sh_0 fl_10_44 rfl dX10_poll_29 ?_
    obtain ⟨x7, M8, h6, h⟩ := b2_e h
    refine v_callV (pc := 32) [.ref (ad 86)] (some (.int x7)) M8 hX cv_10_163 (c_X6_pollOnce (sub_cs hcs (Nat.le_of_ble_eq_true rfl) (Nat.le_of_ble_eq_true rfl)) M5 (x7, M8) h6) (hcs 1 (Nat.le_of_ble_eq_true rfl) (Nat.le_of_ble_eq_true rfl)) sh_1 rfl rfl rfl ⟨Nat.le_of_ble_eq_true rfl, Nat.le_of_ble_eq_true rfl⟩ (Nat.le_of_ble_eq_true rfl) dX10_poll_32 ?_
    show VV X 1 ad cs M8 35 [(0, .ref (ad 0))] [.int x7]
    obtain rfl := Option.some.inj h
    exact v_iret (pc := 35) hX hR dX10_poll_35
  · have h := if_t h h3
    refine v_ldc (pc := 10) hX kc_10_93 dX10_poll_10 ?_
    obtain rfl := Option.some.inj h
    exact v_iret (pc := 12) hX hR dX10_poll_12
set_option maxHeartbeats 4000000 in
set_option maxRecDepth 100000 in
theorem c_X10_run {ad : Nat → Nat} {cs : List Nat} (hcs : ∀ k, 0 ≤ k → k < 90 → k ∈ cs) (M : Mm) (w1 : Int32) (q : Int32 × Mm) (h : fX10_run M w1 = some q) : CT ad cs yX10_run cX10_run 3 (some .int) 5 126 [.ref (ad 0), .int w1] M (some (.int q.1)) q.2 := by
  refine CT.of RX10 (by decide +kernel) rfl (Nat.le_of_ble_eq_true rfl) (fun X hX hR => ?_)
  unfold fX10_run at h
  show VV X 3 ad cs M 0 [(0, .ref (ad 0)), (1, .int w1)] []
  refine v_iload_n (pc := 0) 1 hX dX10_run_0 rfl ?_
  refine v_iconst (pc := 1) hX dX10_run_1 ic_1 ?_
  refine v_bipush (pc := 2) hX dX10_run_2 bp_60 ?_
  obtain ⟨x2, h1, h⟩ := b1_e h
  refine v_callS (pc := 4) [.int w1, .int 1, .int 60] (some (.int x2)) M hX cv_10_62 (c_X10_within M w1 1 60 x2 h1) rfl rfl ⟨Nat.le_of_ble_eq_true rfl, Nat.le_of_ble_eq_true rfl⟩ (Nat.le_of_ble_eq_true rfl) dX10_run_4 ?_
  show VV X 3 ad cs M 7 [(0, .ref (ad 0)), (1, .int w1)] [.int x2]
  refine v_if_ne (pc := 7) (tgt := 13) hX dX10_run_7 (by decide) (fun h3 => ?_) (fun h3 => ?_)
  · have h := if_f h h3
    refine v_aload_n (pc := 13) 0 hX dX10_run_13 rfl ?_
    refine v_getR (pc := 14) (t := 1) hX (hcs 0 (Nat.le_of_ble_eq_true rfl) (Nat.le_of_ble_eq_true rfl)) sh_0 fl_10_10 rfl dX10_run_14 ?_
    obtain ⟨x5, h4, h⟩ := b1_e h
    refine v_callV (pc := 17) [] (some (.int x5)) M hX cv_10_160 (c_X6_canPoll (sub_cs hcs (Nat.le_of_ble_eq_true rfl) (Nat.le_of_ble_eq_true rfl)) M x5 h4) (hcs 1 (Nat.le_of_ble_eq_true rfl) (Nat.le_of_ble_eq_true rfl)) sh_1 rfl rfl rfl ⟨Nat.le_of_ble_eq_true rfl, Nat.le_of_ble_eq_true rfl⟩ (Nat.le_of_ble_eq_true rfl) dX10_run_17 ?_
    show VV X 3 ad cs M 20 [(0, .ref (ad 0)), (1, .int w1)] [.int x5]
    refine v_if_ne (pc := 20) (tgt := 26) hX dX10_run_20 (by decide) (fun h6 => ?_) (fun h6 => ?_)
    · have h := if_f h h6
      refine v_aload_n (pc := 26) 0 hX dX10_run_26 rfl ?_
      refine v_getR (pc := 27) (t := 14) hX (hcs 0 (Nat.le_of_ble_eq_true rfl) (Nat.le_of_ble_eq_true rfl)) sh_0 fl_10_23 rfl dX10_run_27 ?_
      refine v_aload_n (pc := 30) 0 hX dX10_run_30 rfl ?_
      refine v_getR (pc := 31) (t := 1) hX (hcs 0 (Nat.le_of_ble_eq_true rfl) (Nat.le_of_ble_eq_true rfl)) sh_0 fl_10_10 rfl dX10_run_31 ?_
      obtain ⟨M8, h7, h⟩ := b1_e h
      refine v_callV (pc := 34) [.ref (ad 1)] none M8 hX cv_10_71 (c_X2_push (sub_cs hcs (Nat.le_of_ble_eq_true rfl) (Nat.le_of_ble_eq_true rfl)) M M8 h7) (hcs 14 (Nat.le_of_ble_eq_true rfl) (Nat.le_of_ble_eq_true rfl)) sh_14 rfl rfl rfl ⟨Nat.le_of_ble_eq_true rfl, Nat.le_of_ble_eq_true rfl⟩ (Nat.le_of_ble_eq_true rfl) dX10_run_34 ?_
      show VV X 3 ad cs M8 37 [(0, .ref (ad 0)), (1, .int w1)] []
      refine v_iconst (pc := 37) hX dX10_run_37 ic_0 ?_
      refine v_istore_n (pc := 38) [(2, .int 0), (0, .ref (ad 0)), (1, .int w1)] hX dX10_run_38 (by decide) rfl ?_
      have L17 := v_itr (fX10_run_L39 w1) (fun z => VV X 3 ad cs z.2 39 [(0, .ref (ad 0)), (1, .int w1), (2, .int z.1)] []) (fun z => VV X 3 ad cs z.2 72 [(2, .int z.1)] []) (by
        rintro ⟨x9, M10⟩ q h hK
        unfold fX10_run_L39 at h
        have h := u2_b h
        show VV X 3 ad cs M10 39 [(0, .ref (ad 0)), (1, .int w1), (2, .int x9)] []
        refine v_aload_n (pc := 39) 0 hX dX10_run_39 rfl ?_
        refine v_getR (pc := 40) (t := 1) hX (hcs 0 (Nat.le_of_ble_eq_true rfl) (Nat.le_of_ble_eq_true rfl)) sh_0 fl_10_10 rfl dX10_run_40 ?_
        refine v_aload_n (pc := 43) 0 hX dX10_run_43 rfl ?_
        refine v_getR (pc := 44) (t := 86) hX (hcs 0 (Nat.le_of_ble_eq_true rfl) (Nat.le_of_ble_eq_true rfl)) sh_0 fl_10_44 rfl dX10_run_44 ?_
        obtain ⟨x12, M13, h11, h⟩ := b2_e h
        refine v_callV (pc := 47) [.ref (ad 86)] (some (.int x12)) M13 hX cv_10_163 (c_X6_pollOnce (sub_cs hcs (Nat.le_of_ble_eq_true rfl) (Nat.le_of_ble_eq_true rfl)) M10 (x12, M13) h11) (hcs 1 (Nat.le_of_ble_eq_true rfl) (Nat.le_of_ble_eq_true rfl)) sh_1 rfl rfl rfl ⟨Nat.le_of_ble_eq_true rfl, Nat.le_of_ble_eq_true rfl⟩ (Nat.le_of_ble_eq_true rfl) dX10_run_47 ?_
        show VV X 3 ad cs M13 50 [(0, .ref (ad 0)), (1, .int w1), (2, .int x9)] [.int x12]
        refine v_pop (pc := 50) hX dX10_run_50 rfl ?_
        obtain ⟨x14, ex14, h⟩ := bd_e h
        refine v_iinc (v := x14) (pc := 51) 2 [(2, .int x14), (0, .ref (ad 0)), (1, .int w1)] hX dX10_run_51 rfl (ex14.trans (by rw [ic_1])) (by decide) rfl ?_
        refine v_iload_n (pc := 54) 0 hX dX10_run_54 rfl ?_
        refine v_iload_n (pc := 55) 2 hX dX10_run_55 rfl ?_
        refine v_icmp_ge (pc := 56) (tgt := 72) hX dX10_run_56 (by decide) (fun h15 => ?_) (fun h15 => ?_)
        · have h := if_t h h15
          obtain rfl := Option.some.inj h
          exact v_sub [0] rfl hK
        · have h := if_f h h15
          refine v_aload_n (pc := 59) 1 hX dX10_run_59 rfl ?_
          refine v_getR (pc := 60) (t := 1) hX (hcs 0 (Nat.le_of_ble_eq_true rfl) (Nat.le_of_ble_eq_true rfl)) sh_0 fl_10_10 rfl dX10_run_60 ?_
          refine v_getR (pc := 63) (t := 11) hX (hcs 1 (Nat.le_of_ble_eq_true rfl) (Nat.le_of_ble_eq_true rfl)) sh_1 fl_10_139 rfl dX10_run_63 ?_
          refine v_getI (pc := 66) hX (hcs 11 (Nat.le_of_ble_eq_true rfl) (Nat.le_of_ble_eq_true rfl)) sh_11 fl_10_167 rfl dX10_run_66 ?_
          refine v_if_eq (pc := 69) (tgt := 39) hX dX10_run_69 (by decide) (fun h16 => ?_) (fun h16 => ?_)
          · have h := if_t h h16
            obtain rfl := Option.some.inj h
            exact v_sub [1, 2, 0] rfl hK
          · have h := if_f h h16
            obtain rfl := Option.some.inj h
            exact v_sub [0] rfl hK
      )
      obtain ⟨x18, M19, h20, h⟩ := b2_e h
      refine v_sub [1, 2, 0] rfl ?_
      refine L17 1000 _ _ h20 ?_
      show VV X 3 ad cs M19 72 [(2, .int x18)] []
      refine v_iload_n (pc := 72) 0 hX dX10_run_72 rfl ?_
      obtain rfl := Option.some.inj h
      exact v_iret (pc := 73) hX hR dX10_run_73
    · have h := if_t h h6
      refine v_ldc (pc := 23) hX kc_10_93 dX10_run_23 ?_
      obtain rfl := Option.some.inj h
      exact v_iret (pc := 25) hX hR dX10_run_25
  · have h := if_t h h3
    refine v_ldc (pc := 10) hX kc_10_66 dX10_run_10 ?_
    obtain rfl := Option.some.inj h
    exact v_iret (pc := 12) hX hR dX10_run_12
set_option maxHeartbeats 4000000 in
set_option maxRecDepth 100000 in
theorem c_X10_value {ad : Nat → Nat} {cs : List Nat} (hcs : ∀ k, 0 ≤ k → k < 5 → k ∈ cs) (M : Mm) (w1 : Int32) (w2 : Int32) (w3 : Int32) (w4 : Int32) (q : Int64) (h : fX10_value M w1 w2 w3 w4 = some q) : CT ad cs yX10_value cX10_value 6 (some .long) 2 53 [.ref (ad 0), .int w1, .int w2, .int w3, .int w4] M (some (.long q)) M := by
  refine CT.of RX10 (by decide +kernel) rfl (Nat.le_of_ble_eq_true rfl) (fun X hX hR => ?_)
  unfold fX10_value at h
  show VV X 6 ad cs M 0 [(0, .ref (ad 0)), (1, .int w1), (2, .int w2), (3, .int w3), (4, .int w4)] []
  refine v_aload_n (pc := 0) 0 hX dX10_value_0 rfl ?_
  refine v_getR (pc := 1) (t := 1) hX (hcs 0 (Nat.le_of_ble_eq_true rfl) (Nat.le_of_ble_eq_true rfl)) sh_0 fl_10_10 rfl dX10_value_1 ?_
  refine v_iload_n (pc := 4) 1 hX dX10_value_4 rfl ?_
  refine v_iload_n (pc := 5) 2 hX dX10_value_5 rfl ?_
  refine v_iload_n (pc := 6) 3 hX dX10_value_6 rfl ?_
  refine v_bipush (pc := 7) hX dX10_value_7 bp_m50 ?_
  refine v_bipush (pc := 9) hX dX10_value_9 bp_50 ?_
  obtain ⟨x2, h1, h⟩ := b1_e h
  refine v_callV (pc := 11) [.int w1, .int w2, .int w3, .int (-50), .int 50] (some (.int x2)) M hX cv_10_75 (c_X6_fit (sub_cs hcs (Nat.le_of_ble_eq_true rfl) (Nat.le_of_ble_eq_true rfl)) M w1 w2 w3 (-50) 50 x2 h1) (hcs 1 (Nat.le_of_ble_eq_true rfl) (Nat.le_of_ble_eq_true rfl)) sh_1 rfl rfl rfl ⟨Nat.le_of_ble_eq_true rfl, Nat.le_of_ble_eq_true rfl⟩ (Nat.le_of_ble_eq_true rfl) dX10_value_11 ?_
  show VV X 6 ad cs M 14 [(0, .ref (ad 0)), (1, .int w1), (2, .int w2), (3, .int w3), (4, .int w4)] [.int x2]
  refine v_if_eq (pc := 14) (tgt := 27) hX dX10_value_14 (by decide) (fun h3 => ?_) (fun h3 => ?_)
  · have h := if_t h h3
    refine v_ldc2 (pc := 27) hX kc_10_170 dX10_value_27 ?_
    obtain rfl := Option.some.inj h
    exact v_lret (pc := 30) hX hR dX10_value_30
  · have h := if_f h h3
    refine v_iload (pc := 17) 4 hX dX10_value_17 rfl ?_
    refine v_iconst (pc := 19) hX dX10_value_19 ic_0 ?_
    refine v_iconst (pc := 20) hX dX10_value_20 ic_1 ?_
    obtain ⟨x5, h4, h⟩ := b1_e h
    refine v_callS (pc := 21) [.int w4, .int 0, .int 1] (some (.int x5)) M hX cv_10_62 (c_X10_within M w4 0 1 x5 h4) rfl rfl ⟨Nat.le_of_ble_eq_true rfl, Nat.le_of_ble_eq_true rfl⟩ (Nat.le_of_ble_eq_true rfl) dX10_value_21 ?_
    show VV X 6 ad cs M 24 [(0, .ref (ad 0)), (1, .int w1), (2, .int w2), (3, .int w3), (4, .int w4)] [.int x5]
    refine v_if_ne (pc := 24) (tgt := 31) hX dX10_value_24 (by decide) (fun h6 => ?_) (fun h6 => ?_)
    · have h := if_f h h6
      refine v_iload (pc := 31) 4 hX dX10_value_31 rfl ?_
      refine v_iconst (pc := 33) hX dX10_value_33 ic_1 ?_
      obtain ⟨k7, ek7, h⟩ := bd_e h
      have K8 : ∀ (x9 : Int32), k7 x9 = some q → VV X 6 ad cs M 42 [(0, .ref (ad 0)), (1, .int w1), (2, .int w2), (3, .int w3)] [.int x9] := by
        intro x9 h
        subst ek7
        refine v_istore (pc := 42) [(5, .int x9), (0, .ref (ad 0)), (1, .int w1), (2, .int w2), (3, .int w3)] hX dX10_value_42 (by decide) rfl ?_
        refine v_ldc2 (pc := 44) hX kc_10_172 dX10_value_44 ?_
        refine v_aload_n (pc := 47) 1 hX dX10_value_47 rfl ?_
        refine v_getR (pc := 48) (t := 1) hX (hcs 0 (Nat.le_of_ble_eq_true rfl) (Nat.le_of_ble_eq_true rfl)) sh_0 fl_10_10 rfl dX10_value_48 ?_
        refine v_getR (pc := 51) (t := 2) hX (hcs 1 (Nat.le_of_ble_eq_true rfl) (Nat.le_of_ble_eq_true rfl)) sh_1 fl_10_79 rfl dX10_value_51 ?_
        refine v_iload_n (pc := 54) 2 hX dX10_value_54 rfl ?_
        refine v_iload_n (pc := 55) 3 hX dX10_value_55 rfl ?_
        refine v_iload_n (pc := 56) 4 hX dX10_value_56 rfl ?_
        refine v_iload (pc := 57) 0 hX dX10_value_57 rfl ?_
        obtain ⟨y11, h10, h⟩ := b1_e h
        refine v_callV (pc := 59) [.int w1, .int w2, .int w3, .int x9] (some (.long y11)) M hX cv_10_174 (c_X7_sumAt (sub_cs hcs (Nat.le_of_ble_eq_true rfl) (Nat.le_of_ble_eq_true rfl)) M w1 w2 w3 x9 y11 h10) (hcs 2 (Nat.le_of_ble_eq_true rfl) (Nat.le_of_ble_eq_true rfl)) sh_2 rfl rfl rfl ⟨Nat.le_of_ble_eq_true rfl, Nat.le_of_ble_eq_true rfl⟩ (Nat.le_of_ble_eq_true rfl) dX10_value_59 ?_
        show VV X 6 ad cs M 62 [(5, .int x9), (0, .ref (ad 0)), (1, .int w1), (2, .int w2), (3, .int w3)] [.long y11, .long 20000000000]
        refine v_ladd (pc := 62) hX dX10_value_62 ?_
        obtain rfl := Option.some.inj h
        exact v_lret (pc := 63) hX hR dX10_value_63
      refine v_icmp_ne (pc := 34) (tgt := 41) hX dX10_value_34 (by decide) (fun h12 => ?_) (fun h12 => ?_)
      · have h := if_f h h12
        refine v_iconst (pc := 41) hX dX10_value_41 ic_4 ?_
        exact v_sub [0, 1, 2, 3] rfl (K8 4 h)
      · have h := if_t h h12
        refine v_iconst (pc := 37) hX dX10_value_37 ic_2 ?_
        refine v_goto (pc := 38) (tgt := 42) hX dX10_value_38 (by decide) ?_
        exact v_sub [0, 1, 2, 3] rfl (K8 2 h)
    · have h := if_t h h6
      refine v_ldc2 (pc := 27) hX kc_10_170 dX10_value_27 ?_
      obtain rfl := Option.some.inj h
      exact v_lret (pc := 30) hX hR dX10_value_30
set_option maxHeartbeats 4000000 in
set_option maxRecDepth 100000 in
theorem c_X10_termOf {ad : Nat → Nat} {cs : List Nat} (hcs : ∀ k, 0 ≤ k → k < 5 → k ∈ cs) (M : Mm) (w1 : Int32) (w2 : Int32) (q : Int32) (h : fX10_termOf M w1 w2 = some q) : CT ad cs yX10_termOf cX10_termOf 3 (some .int) 1 22 [.ref (ad 0), .int w1, .int w2] M (some (.int q)) M := by
  refine CT.of RX10 (by decide +kernel) rfl (Nat.le_of_ble_eq_true rfl) (fun X hX hR => ?_)
  unfold fX10_termOf at h
  show VV X 3 ad cs M 0 [(0, .ref (ad 0)), (1, .int w1), (2, .int w2)] []
  refine v_iload_n (pc := 0) 1 hX dX10_termOf_0 rfl ?_
  refine v_if_lt (pc := 1) (tgt := 13) hX dX10_termOf_1 (by decide) (fun h1 => ?_) (fun h1 => ?_)
  · have h := if_t h h1
    refine v_ldc (pc := 13) hX kc_10_66 dX10_termOf_13 ?_
    obtain rfl := Option.some.inj h
    exact v_iret (pc := 15) hX hR dX10_termOf_15
  · have h := if_f h h1
    refine v_iload_n (pc := 4) 2 hX dX10_termOf_4 rfl ?_
    refine v_iconst (pc := 5) hX dX10_termOf_5 ic_0 ?_
    refine v_iconst (pc := 6) hX dX10_termOf_6 ic_3 ?_
    obtain ⟨x3, h2, h⟩ := b1_e h
    refine v_callS (pc := 7) [.int w2, .int 0, .int 3] (some (.int x3)) M hX cv_10_62 (c_X10_within M w2 0 3 x3 h2) rfl rfl ⟨Nat.le_of_ble_eq_true rfl, Nat.le_of_ble_eq_true rfl⟩ (Nat.le_of_ble_eq_true rfl) dX10_termOf_7 ?_
    show VV X 3 ad cs M 10 [(0, .ref (ad 0)), (1, .int w1), (2, .int w2)] [.int x3]
    refine v_if_ne (pc := 10) (tgt := 16) hX dX10_termOf_10 (by decide) (fun h4 => ?_) (fun h4 => ?_)
    · have h := if_f h h4
      refine v_iload_n (pc := 16) 1 hX dX10_termOf_16 rfl ?_
      refine v_aload_n (pc := 17) 0 hX dX10_termOf_17 rfl ?_
      refine v_getR (pc := 18) (t := 1) hX (hcs 0 (Nat.le_of_ble_eq_true rfl) (Nat.le_of_ble_eq_true rfl)) sh_0 fl_10_10 rfl dX10_termOf_18 ?_
      refine v_getR (pc := 21) (t := 2) hX (hcs 1 (Nat.le_of_ble_eq_true rfl) (Nat.le_of_ble_eq_true rfl)) sh_1 fl_10_79 rfl dX10_termOf_21 ?_
      refine v_getI (pc := 24) hX (hcs 2 (Nat.le_of_ble_eq_true rfl) (Nat.le_of_ble_eq_true rfl)) sh_2 fl_10_83 rfl dX10_termOf_24 ?_
      refine v_icmp_lt (pc := 27) (tgt := 33) hX dX10_termOf_27 (by decide) (fun h5 => ?_) (fun h5 => ?_)
      · have h := if_t h h5
        refine v_iload_n (pc := 33) 2 hX dX10_termOf_33 rfl ?_
        refine v_if_ne (pc := 34) (tgt := 50) hX dX10_termOf_34 (by decide) (fun h6 => ?_) (fun h6 => ?_)
        · have h := if_f h h6
          refine v_aload_n (pc := 50) 0 hX dX10_termOf_50 rfl ?_
          refine v_getR (pc := 51) (t := 1) hX (hcs 0 (Nat.le_of_ble_eq_true rfl) (Nat.le_of_ble_eq_true rfl)) sh_0 fl_10_10 rfl dX10_termOf_51 ?_
          refine v_getR (pc := 54) (t := 2) hX (hcs 1 (Nat.le_of_ble_eq_true rfl) (Nat.le_of_ble_eq_true rfl)) sh_1 fl_10_79 rfl dX10_termOf_54 ?_
          refine v_getR (pc := 57) (t := 4) hX (hcs 2 (Nat.le_of_ble_eq_true rfl) (Nat.le_of_ble_eq_true rfl)) sh_2 fl_10_179 rfl dX10_termOf_57 ?_
          refine v_iconst (pc := 60) hX dX10_termOf_60 ic_3 ?_
          refine v_iload_n (pc := 61) 1 hX dX10_termOf_61 rfl ?_
          refine v_imul (pc := 62) hX dX10_termOf_62 ?_
          refine v_iload_n (pc := 63) 2 hX dX10_termOf_63 rfl ?_
          refine v_iadd (pc := 64) hX dX10_termOf_64 ?_
          refine v_iconst (pc := 65) hX dX10_termOf_65 ic_1 ?_
          refine v_isub (pc := 66) hX dX10_termOf_66 ?_
          obtain ⟨g7, h⟩ := gd_e h
          refine v_iald (pc := 67) hX (hcs 4 (Nat.le_of_ble_eq_true rfl) (Nat.le_of_ble_eq_true rfl)) sh_4 g7 rfl dX10_termOf_67 ?_
          obtain rfl := Option.some.inj h
          exact v_iret (pc := 68) hX hR dX10_termOf_68
        · have h := if_t h h6
          refine v_aload_n (pc := 37) 0 hX dX10_termOf_37 rfl ?_
          refine v_getR (pc := 38) (t := 1) hX (hcs 0 (Nat.le_of_ble_eq_true rfl) (Nat.le_of_ble_eq_true rfl)) sh_0 fl_10_10 rfl dX10_termOf_38 ?_
          refine v_getR (pc := 41) (t := 2) hX (hcs 1 (Nat.le_of_ble_eq_true rfl) (Nat.le_of_ble_eq_true rfl)) sh_1 fl_10_79 rfl dX10_termOf_41 ?_
          refine v_getR (pc := 44) (t := 3) hX (hcs 2 (Nat.le_of_ble_eq_true rfl) (Nat.le_of_ble_eq_true rfl)) sh_2 fl_10_94 rfl dX10_termOf_44 ?_
          refine v_iload_n (pc := 47) 1 hX dX10_termOf_47 rfl ?_
          obtain ⟨g8, h⟩ := gd_e h
          refine v_iald (pc := 48) hX (hcs 3 (Nat.le_of_ble_eq_true rfl) (Nat.le_of_ble_eq_true rfl)) sh_3 g8 rfl dX10_termOf_48 ?_
          obtain rfl := Option.some.inj h
          exact v_iret (pc := 49) hX hR dX10_termOf_49
      · have h := if_f h h5
        refine v_ldc (pc := 30) hX kc_10_178 dX10_termOf_30 ?_
        obtain rfl := Option.some.inj h
        exact v_iret (pc := 32) hX hR dX10_termOf_32
    · have h := if_t h h4
      refine v_ldc (pc := 13) hX kc_10_66 dX10_termOf_13 ?_
      obtain rfl := Option.some.inj h
      exact v_iret (pc := 15) hX hR dX10_termOf_15
set_option maxHeartbeats 4000000 in
set_option maxRecDepth 100000 in
theorem c_X10_directionOf {ad : Nat → Nat} {cs : List Nat} (hcs : ∀ k, 0 ≤ k → k < 11 → k ∈ cs) (M : Mm) (w1 : Int32) (w2 : Int32) (q : Int32) (h : fX10_directionOf M w1 w2 = some q) : CT ad cs yX10_directionOf cX10_directionOf 3 (some .int) 1 22 [.ref (ad 0), .int w1, .int w2] M (some (.int q)) M := by
  refine CT.of RX10 (by decide +kernel) rfl (Nat.le_of_ble_eq_true rfl) (fun X hX hR => ?_)
  unfold fX10_directionOf at h
  show VV X 3 ad cs M 0 [(0, .ref (ad 0)), (1, .int w1), (2, .int w2)] []
  refine v_iload_n (pc := 0) 1 hX dX10_directionOf_0 rfl ?_
  refine v_if_lt (pc := 1) (tgt := 13) hX dX10_directionOf_1 (by decide) (fun h1 => ?_) (fun h1 => ?_)
  · have h := if_t h h1
    refine v_ldc (pc := 13) hX kc_10_66 dX10_directionOf_13 ?_
    obtain rfl := Option.some.inj h
    exact v_iret (pc := 15) hX hR dX10_directionOf_15
  · have h := if_f h h1
    refine v_iload_n (pc := 4) 2 hX dX10_directionOf_4 rfl ?_
    refine v_iconst (pc := 5) hX dX10_directionOf_5 ic_0 ?_
    refine v_iconst (pc := 6) hX dX10_directionOf_6 ic_3 ?_
    obtain ⟨x3, h2, h⟩ := b1_e h
    refine v_callS (pc := 7) [.int w2, .int 0, .int 3] (some (.int x3)) M hX cv_10_62 (c_X10_within M w2 0 3 x3 h2) rfl rfl ⟨Nat.le_of_ble_eq_true rfl, Nat.le_of_ble_eq_true rfl⟩ (Nat.le_of_ble_eq_true rfl) dX10_directionOf_7 ?_
    show VV X 3 ad cs M 10 [(0, .ref (ad 0)), (1, .int w1), (2, .int w2)] [.int x3]
    refine v_if_ne (pc := 10) (tgt := 16) hX dX10_directionOf_10 (by decide) (fun h4 => ?_) (fun h4 => ?_)
    · have h := if_f h h4
      refine v_iload_n (pc := 16) 1 hX dX10_directionOf_16 rfl ?_
      refine v_aload_n (pc := 17) 0 hX dX10_directionOf_17 rfl ?_
      refine v_getR (pc := 18) (t := 1) hX (hcs 0 (Nat.le_of_ble_eq_true rfl) (Nat.le_of_ble_eq_true rfl)) sh_0 fl_10_10 rfl dX10_directionOf_18 ?_
      refine v_getR (pc := 21) (t := 8) hX (hcs 1 (Nat.le_of_ble_eq_true rfl) (Nat.le_of_ble_eq_true rfl)) sh_1 fl_10_125 rfl dX10_directionOf_21 ?_
      refine v_getI (pc := 24) hX (hcs 8 (Nat.le_of_ble_eq_true rfl) (Nat.le_of_ble_eq_true rfl)) sh_8 fl_10_134 rfl dX10_directionOf_24 ?_
      refine v_icmp_lt (pc := 27) (tgt := 33) hX dX10_directionOf_27 (by decide) (fun h5 => ?_) (fun h5 => ?_)
      · have h := if_t h h5
        refine v_iload_n (pc := 33) 2 hX dX10_directionOf_33 rfl ?_
        refine v_iconst (pc := 34) hX dX10_directionOf_34 ic_3 ?_
        refine v_icmp_ne (pc := 35) (tgt := 51) hX dX10_directionOf_35 (by decide) (fun h6 => ?_) (fun h6 => ?_)
        · have h := if_f h h6
          refine v_aload_n (pc := 51) 0 hX dX10_directionOf_51 rfl ?_
          refine v_getR (pc := 52) (t := 1) hX (hcs 0 (Nat.le_of_ble_eq_true rfl) (Nat.le_of_ble_eq_true rfl)) sh_0 fl_10_10 rfl dX10_directionOf_52 ?_
          refine v_getR (pc := 55) (t := 8) hX (hcs 1 (Nat.le_of_ble_eq_true rfl) (Nat.le_of_ble_eq_true rfl)) sh_1 fl_10_125 rfl dX10_directionOf_55 ?_
          refine v_getR (pc := 58) (t := 9) hX (hcs 8 (Nat.le_of_ble_eq_true rfl) (Nat.le_of_ble_eq_true rfl)) sh_8 fl_10_185 rfl dX10_directionOf_58 ?_
          refine v_iconst (pc := 61) hX dX10_directionOf_61 ic_3 ?_
          refine v_iload_n (pc := 62) 1 hX dX10_directionOf_62 rfl ?_
          refine v_imul (pc := 63) hX dX10_directionOf_63 ?_
          refine v_iload_n (pc := 64) 2 hX dX10_directionOf_64 rfl ?_
          refine v_iadd (pc := 65) hX dX10_directionOf_65 ?_
          obtain ⟨g7, h⟩ := gd_e h
          refine v_iald (pc := 66) hX (hcs 9 (Nat.le_of_ble_eq_true rfl) (Nat.le_of_ble_eq_true rfl)) sh_9 g7 rfl dX10_directionOf_66 ?_
          obtain rfl := Option.some.inj h
          exact v_iret (pc := 67) hX hR dX10_directionOf_67
        · have h := if_t h h6
          refine v_aload_n (pc := 38) 0 hX dX10_directionOf_38 rfl ?_
          refine v_getR (pc := 39) (t := 1) hX (hcs 0 (Nat.le_of_ble_eq_true rfl) (Nat.le_of_ble_eq_true rfl)) sh_0 fl_10_10 rfl dX10_directionOf_39 ?_
          refine v_getR (pc := 42) (t := 8) hX (hcs 1 (Nat.le_of_ble_eq_true rfl) (Nat.le_of_ble_eq_true rfl)) sh_1 fl_10_125 rfl dX10_directionOf_42 ?_
          refine v_getR (pc := 45) (t := 10) hX (hcs 8 (Nat.le_of_ble_eq_true rfl) (Nat.le_of_ble_eq_true rfl)) sh_8 fl_10_182 rfl dX10_directionOf_45 ?_
          refine v_iload_n (pc := 48) 1 hX dX10_directionOf_48 rfl ?_
          obtain ⟨g8, h⟩ := gd_e h
          refine v_iald (pc := 49) hX (hcs 10 (Nat.le_of_ble_eq_true rfl) (Nat.le_of_ble_eq_true rfl)) sh_10 g8 rfl dX10_directionOf_49 ?_
          obtain rfl := Option.some.inj h
          exact v_iret (pc := 50) hX hR dX10_directionOf_50
      · have h := if_f h h5
        refine v_ldc (pc := 30) hX kc_10_178 dX10_directionOf_30 ?_
        obtain rfl := Option.some.inj h
        exact v_iret (pc := 32) hX hR dX10_directionOf_32
    · have h := if_t h h4
      refine v_ldc (pc := 13) hX kc_10_66 dX10_directionOf_13 ?_
      obtain rfl := Option.some.inj h
      exact v_iret (pc := 15) hX hR dX10_directionOf_15
set_option maxHeartbeats 4000000 in
set_option maxRecDepth 100000 in
theorem c_X10_searchOf {ad : Nat → Nat} {cs : List Nat} (hcs : ∀ k, 0 ≤ k → k < 13 → k ∈ cs) (M : Mm) (w1 : Int32) (q : Int32) (h : fX10_searchOf M w1 = some q) : CT ad cs yX10_searchOf cX10_searchOf 2 (some .int) 1 20 [.ref (ad 0), .int w1] M (some (.int q)) M := by
  refine CT.of RX10 (by decide +kernel) rfl (Nat.le_of_ble_eq_true rfl) (fun X hX hR => ?_)
  unfold fX10_searchOf at h
  show VV X 2 ad cs M 0 [(0, .ref (ad 0)), (1, .int w1)] []
  refine v_iload_n (pc := 0) 1 hX dX10_searchOf_0 rfl ?_
  by_cases h1 : w1 = 0
  · have h := if_t h h1
    refine v_tableIn (pc := 1) (tgt := 56) (off := 55) hX dX10_searchOf_1 (by rw [h1]; decide) (by rw [h1]; decide) (by rw [h1]; decide) (by decide) ?_
    refine v_aload_n (pc := 56) 0 hX dX10_searchOf_56 rfl ?_
    refine v_getR (pc := 57) (t := 1) hX (hcs 0 (Nat.le_of_ble_eq_true rfl) (Nat.le_of_ble_eq_true rfl)) sh_0 fl_10_10 rfl dX10_searchOf_57 ?_
    refine v_getR (pc := 60) (t := 11) hX (hcs 1 (Nat.le_of_ble_eq_true rfl) (Nat.le_of_ble_eq_true rfl)) sh_1 fl_10_139 rfl dX10_searchOf_60 ?_
    refine v_getR (pc := 63) (t := 12) hX (hcs 11 (Nat.le_of_ble_eq_true rfl) (Nat.le_of_ble_eq_true rfl)) sh_11 fl_10_188 rfl dX10_searchOf_63 ?_
    refine v_iload_n (pc := 66) 1 hX dX10_searchOf_66 rfl ?_
    obtain ⟨g2, h⟩ := gd_e h
    refine v_iald (pc := 67) hX (hcs 12 (Nat.le_of_ble_eq_true rfl) (Nat.le_of_ble_eq_true rfl)) sh_12 g2 rfl dX10_searchOf_67 ?_
    obtain rfl := Option.some.inj h
    exact v_iret (pc := 68) hX hR dX10_searchOf_68
  · have h := if_f h h1
    by_cases h3 : w1 = 1
    · have h := if_t h h3
      refine v_tableIn (pc := 1) (tgt := 56) (off := 55) hX dX10_searchOf_1 (by rw [h3]; decide) (by rw [h3]; decide) (by rw [h3]; decide) (by decide) ?_
      refine v_aload_n (pc := 56) 0 hX dX10_searchOf_56 rfl ?_
      refine v_getR (pc := 57) (t := 1) hX (hcs 0 (Nat.le_of_ble_eq_true rfl) (Nat.le_of_ble_eq_true rfl)) sh_0 fl_10_10 rfl dX10_searchOf_57 ?_
      refine v_getR (pc := 60) (t := 11) hX (hcs 1 (Nat.le_of_ble_eq_true rfl) (Nat.le_of_ble_eq_true rfl)) sh_1 fl_10_139 rfl dX10_searchOf_60 ?_
      refine v_getR (pc := 63) (t := 12) hX (hcs 11 (Nat.le_of_ble_eq_true rfl) (Nat.le_of_ble_eq_true rfl)) sh_11 fl_10_188 rfl dX10_searchOf_63 ?_
      refine v_iload_n (pc := 66) 1 hX dX10_searchOf_66 rfl ?_
      obtain ⟨g4, h⟩ := gd_e h
      refine v_iald (pc := 67) hX (hcs 12 (Nat.le_of_ble_eq_true rfl) (Nat.le_of_ble_eq_true rfl)) sh_12 g4 rfl dX10_searchOf_67 ?_
      obtain rfl := Option.some.inj h
      exact v_iret (pc := 68) hX hR dX10_searchOf_68
    · have h := if_f h h3
      by_cases h5 : w1 = 2
      · have h := if_t h h5
        refine v_tableIn (pc := 1) (tgt := 56) (off := 55) hX dX10_searchOf_1 (by rw [h5]; decide) (by rw [h5]; decide) (by rw [h5]; decide) (by decide) ?_
        refine v_aload_n (pc := 56) 0 hX dX10_searchOf_56 rfl ?_
        refine v_getR (pc := 57) (t := 1) hX (hcs 0 (Nat.le_of_ble_eq_true rfl) (Nat.le_of_ble_eq_true rfl)) sh_0 fl_10_10 rfl dX10_searchOf_57 ?_
        refine v_getR (pc := 60) (t := 11) hX (hcs 1 (Nat.le_of_ble_eq_true rfl) (Nat.le_of_ble_eq_true rfl)) sh_1 fl_10_139 rfl dX10_searchOf_60 ?_
        refine v_getR (pc := 63) (t := 12) hX (hcs 11 (Nat.le_of_ble_eq_true rfl) (Nat.le_of_ble_eq_true rfl)) sh_11 fl_10_188 rfl dX10_searchOf_63 ?_
        refine v_iload_n (pc := 66) 1 hX dX10_searchOf_66 rfl ?_
        obtain ⟨g6, h⟩ := gd_e h
        refine v_iald (pc := 67) hX (hcs 12 (Nat.le_of_ble_eq_true rfl) (Nat.le_of_ble_eq_true rfl)) sh_12 g6 rfl dX10_searchOf_67 ?_
        obtain rfl := Option.some.inj h
        exact v_iret (pc := 68) hX hR dX10_searchOf_68
      · have h := if_f h h5
        by_cases h7 : w1 = 3
        · have h := if_t h h7
          refine v_tableIn (pc := 1) (tgt := 69) (off := 68) hX dX10_searchOf_1 (by rw [h7]; decide) (by rw [h7]; decide) (by rw [h7]; decide) (by decide) ?_
          refine v_aload_n (pc := 69) 0 hX dX10_searchOf_69 rfl ?_
          refine v_getR (pc := 70) (t := 1) hX (hcs 0 (Nat.le_of_ble_eq_true rfl) (Nat.le_of_ble_eq_true rfl)) sh_0 fl_10_10 rfl dX10_searchOf_70 ?_
          refine v_getR (pc := 73) (t := 11) hX (hcs 1 (Nat.le_of_ble_eq_true rfl) (Nat.le_of_ble_eq_true rfl)) sh_1 fl_10_139 rfl dX10_searchOf_73 ?_
          refine v_getI (pc := 76) hX (hcs 11 (Nat.le_of_ble_eq_true rfl) (Nat.le_of_ble_eq_true rfl)) sh_11 fl_10_191 rfl dX10_searchOf_76 ?_
          obtain rfl := Option.some.inj h
          exact v_iret (pc := 79) hX hR dX10_searchOf_79
        · have h := if_f h h7
          by_cases h8 : w1 = 4
          · have h := if_t h h8
            refine v_tableIn (pc := 1) (tgt := 80) (off := 79) hX dX10_searchOf_1 (by rw [h8]; decide) (by rw [h8]; decide) (by rw [h8]; decide) (by decide) ?_
            refine v_aload_n (pc := 80) 0 hX dX10_searchOf_80 rfl ?_
            refine v_getR (pc := 81) (t := 1) hX (hcs 0 (Nat.le_of_ble_eq_true rfl) (Nat.le_of_ble_eq_true rfl)) sh_0 fl_10_10 rfl dX10_searchOf_81 ?_
            refine v_getR (pc := 84) (t := 11) hX (hcs 1 (Nat.le_of_ble_eq_true rfl) (Nat.le_of_ble_eq_true rfl)) sh_1 fl_10_139 rfl dX10_searchOf_84 ?_
            refine v_getI (pc := 87) hX (hcs 11 (Nat.le_of_ble_eq_true rfl) (Nat.le_of_ble_eq_true rfl)) sh_11 fl_10_194 rfl dX10_searchOf_87 ?_
            obtain rfl := Option.some.inj h
            exact v_iret (pc := 90) hX hR dX10_searchOf_90
          · have h := if_f h h8
            by_cases h9 : w1 = 5
            · have h := if_t h h9
              refine v_tableIn (pc := 1) (tgt := 91) (off := 90) hX dX10_searchOf_1 (by rw [h9]; decide) (by rw [h9]; decide) (by rw [h9]; decide) (by decide) ?_
              refine v_aload_n (pc := 91) 0 hX dX10_searchOf_91 rfl ?_
              refine v_getR (pc := 92) (t := 1) hX (hcs 0 (Nat.le_of_ble_eq_true rfl) (Nat.le_of_ble_eq_true rfl)) sh_0 fl_10_10 rfl dX10_searchOf_92 ?_
              refine v_getR (pc := 95) (t := 11) hX (hcs 1 (Nat.le_of_ble_eq_true rfl) (Nat.le_of_ble_eq_true rfl)) sh_1 fl_10_139 rfl dX10_searchOf_95 ?_
              refine v_getI (pc := 98) hX (hcs 11 (Nat.le_of_ble_eq_true rfl) (Nat.le_of_ble_eq_true rfl)) sh_11 fl_10_197 rfl dX10_searchOf_98 ?_
              obtain rfl := Option.some.inj h
              exact v_iret (pc := 101) hX hR dX10_searchOf_101
            · have h := if_f h h9
              by_cases h10 : w1 = 6
              · have h := if_t h h10
                refine v_tableIn (pc := 1) (tgt := 102) (off := 101) hX dX10_searchOf_1 (by rw [h10]; decide) (by rw [h10]; decide) (by rw [h10]; decide) (by decide) ?_
                refine v_aload_n (pc := 102) 0 hX dX10_searchOf_102 rfl ?_
                refine v_getR (pc := 103) (t := 1) hX (hcs 0 (Nat.le_of_ble_eq_true rfl) (Nat.le_of_ble_eq_true rfl)) sh_0 fl_10_10 rfl dX10_searchOf_103 ?_
                refine v_getR (pc := 106) (t := 11) hX (hcs 1 (Nat.le_of_ble_eq_true rfl) (Nat.le_of_ble_eq_true rfl)) sh_1 fl_10_139 rfl dX10_searchOf_106 ?_
                refine v_getI (pc := 109) hX (hcs 11 (Nat.le_of_ble_eq_true rfl) (Nat.le_of_ble_eq_true rfl)) sh_11 fl_10_200 rfl dX10_searchOf_109 ?_
                obtain rfl := Option.some.inj h
                exact v_iret (pc := 112) hX hR dX10_searchOf_112
              · have h := if_f h h10
                by_cases h11 : w1 = 7
                · have h := if_t h h11
                  refine v_tableIn (pc := 1) (tgt := 113) (off := 112) hX dX10_searchOf_1 (by rw [h11]; decide) (by rw [h11]; decide) (by rw [h11]; decide) (by decide) ?_
                  refine v_aload_n (pc := 113) 0 hX dX10_searchOf_113 rfl ?_
                  refine v_getR (pc := 114) (t := 1) hX (hcs 0 (Nat.le_of_ble_eq_true rfl) (Nat.le_of_ble_eq_true rfl)) sh_0 fl_10_10 rfl dX10_searchOf_114 ?_
                  refine v_getR (pc := 117) (t := 11) hX (hcs 1 (Nat.le_of_ble_eq_true rfl) (Nat.le_of_ble_eq_true rfl)) sh_1 fl_10_139 rfl dX10_searchOf_117 ?_
                  refine v_getI (pc := 120) hX (hcs 11 (Nat.le_of_ble_eq_true rfl) (Nat.le_of_ble_eq_true rfl)) sh_11 fl_10_203 rfl dX10_searchOf_120 ?_
                  refine v_iconst (pc := 123) hX dX10_searchOf_123 ic_m1 ?_
                  refine v_icmp_ne (pc := 124) (tgt := 132) hX dX10_searchOf_124 (by decide) (fun h12 => ?_) (fun h12 => ?_)
                  · have h := if_f h h12
                    refine v_aload_n (pc := 132) 0 hX dX10_searchOf_132 rfl ?_
                    refine v_getR (pc := 133) (t := 1) hX (hcs 0 (Nat.le_of_ble_eq_true rfl) (Nat.le_of_ble_eq_true rfl)) sh_0 fl_10_10 rfl dX10_searchOf_133 ?_
                    refine v_getR (pc := 136) (t := 11) hX (hcs 1 (Nat.le_of_ble_eq_true rfl) (Nat.le_of_ble_eq_true rfl)) sh_1 fl_10_139 rfl dX10_searchOf_136 ?_
                    refine v_getI (pc := 139) hX (hcs 11 (Nat.le_of_ble_eq_true rfl) (Nat.le_of_ble_eq_true rfl)) sh_11 fl_10_203 rfl dX10_searchOf_139 ?_
                    obtain rfl := Option.some.inj h
                    exact v_iret (pc := 142) hX hR dX10_searchOf_142
                  · have h := if_t h h12
                    refine v_ldc (pc := 127) hX kc_10_178 dX10_searchOf_127 ?_
                    refine v_goto (pc := 129) (tgt := 142) hX dX10_searchOf_129 (by decide) ?_
                    obtain rfl := Option.some.inj h
                    exact v_iret (pc := 142) hX hR dX10_searchOf_142
                · have h := if_f h h11
                  by_cases h13 : w1 = 8
                  · have h := if_t h h13
                    refine v_tableIn (pc := 1) (tgt := 143) (off := 142) hX dX10_searchOf_1 (by rw [h13]; decide) (by rw [h13]; decide) (by rw [h13]; decide) (by decide) ?_
                    refine v_aload_n (pc := 143) 0 hX dX10_searchOf_143 rfl ?_
                    refine v_getR (pc := 144) (t := 1) hX (hcs 0 (Nat.le_of_ble_eq_true rfl) (Nat.le_of_ble_eq_true rfl)) sh_0 fl_10_10 rfl dX10_searchOf_144 ?_
                    refine v_getR (pc := 147) (t := 11) hX (hcs 1 (Nat.le_of_ble_eq_true rfl) (Nat.le_of_ble_eq_true rfl)) sh_1 fl_10_139 rfl dX10_searchOf_147 ?_
                    refine v_getI (pc := 150) hX (hcs 11 (Nat.le_of_ble_eq_true rfl) (Nat.le_of_ble_eq_true rfl)) sh_11 fl_10_206 rfl dX10_searchOf_150 ?_
                    obtain rfl := Option.some.inj h
                    exact v_iret (pc := 153) hX hR dX10_searchOf_153
                  · have h := if_f h h13
                    by_cases h14 : w1 = 9
                    · have h := if_t h h14
                      refine v_tableIn (pc := 1) (tgt := 154) (off := 153) hX dX10_searchOf_1 (by rw [h14]; decide) (by rw [h14]; decide) (by rw [h14]; decide) (by decide) ?_
                      refine v_aload_n (pc := 154) 0 hX dX10_searchOf_154 rfl ?_
                      refine v_getR (pc := 155) (t := 1) hX (hcs 0 (Nat.le_of_ble_eq_true rfl) (Nat.le_of_ble_eq_true rfl)) sh_0 fl_10_10 rfl dX10_searchOf_155 ?_
                      refine v_getR (pc := 158) (t := 11) hX (hcs 1 (Nat.le_of_ble_eq_true rfl) (Nat.le_of_ble_eq_true rfl)) sh_1 fl_10_139 rfl dX10_searchOf_158 ?_
                      refine v_getI (pc := 161) hX (hcs 11 (Nat.le_of_ble_eq_true rfl) (Nat.le_of_ble_eq_true rfl)) sh_11 fl_10_167 rfl dX10_searchOf_161 ?_
                      obtain ⟨x16, h15, h⟩ := b1_e h
                      refine v_callS (pc := 164) [.int (M.1 11 8)] (some (.int x16)) M hX cv_10_121 (c_X10_oneIf M (M.1 11 8) x16 h15) rfl rfl ⟨Nat.le_of_ble_eq_true rfl, Nat.le_of_ble_eq_true rfl⟩ (Nat.le_of_ble_eq_true rfl) dX10_searchOf_164 ?_
                      show VV X 2 ad cs M 167 [(0, .ref (ad 0)), (1, .int w1)] [.int x16]
                      obtain rfl := Option.some.inj h
                      exact v_iret (pc := 167) hX hR dX10_searchOf_167
                    · have h := if_f h h14
                      have sw1 : w1.toInt < 0 ∨ 9 < w1.toInt := by
                        have q0 := lv_neT h1 (a := 0) (by decide)
                        have q1 := lv_neT h3 (a := 1) (by decide)
                        have q2 := lv_neT h5 (a := 2) (by decide)
                        have q3 := lv_neT h7 (a := 3) (by decide)
                        have q4 := lv_neT h8 (a := 4) (by decide)
                        have q5 := lv_neT h9 (a := 5) (by decide)
                        have q6 := lv_neT h10 (a := 6) (by decide)
                        have q7 := lv_neT h11 (a := 7) (by decide)
                        have q8 := lv_neT h13 (a := 8) (by decide)
                        have q9 := lv_neT h14 (a := 9) (by decide)
                        omega
                      refine v_tableOut (pc := 1) (tgt := 168) hX dX10_searchOf_1 sw1 (by decide) ?_
                      refine v_ldc (pc := 168) hX kc_10_66 dX10_searchOf_168 ?_
                      obtain rfl := Option.some.inj h
                      exact v_iret (pc := 170) hX hR dX10_searchOf_170
set_option maxHeartbeats 4000000 in
set_option maxRecDepth 100000 in
theorem c_X10_leftAt {ad : Nat → Nat} {cs : List Nat} (hcs : ∀ k, 0 ≤ k → k < 14 → k ∈ cs) (M : Mm) (w1 : Int32) (w2 : Int32) (q : Int32) (h : fX10_leftAt M w1 w2 = some q) : CT ad cs yX10_leftAt cX10_leftAt 3 (some .int) 2 43 [.ref (ad 0), .int w1, .int w2] M (some (.int q)) M := by
  refine CT.of RX10 (by decide +kernel) rfl (Nat.le_of_ble_eq_true rfl) (fun X hX hR => ?_)
  unfold fX10_leftAt at h
  show VV X 3 ad cs M 0 [(0, .ref (ad 0)), (1, .int w1), (2, .int w2)] []
  refine v_iload_n (pc := 0) 1 hX dX10_leftAt_0 rfl ?_
  refine v_if_lt (pc := 1) (tgt := 15) hX dX10_leftAt_1 (by decide) (fun h1 => ?_) (fun h1 => ?_)
  · have h := if_t h h1
    refine v_ldc (pc := 15) hX kc_10_66 dX10_leftAt_15 ?_
    obtain rfl := Option.some.inj h
    exact v_iret (pc := 17) hX hR dX10_leftAt_17
  · have h := if_f h h1
    refine v_aload_n (pc := 4) 0 hX dX10_leftAt_4 rfl ?_
    refine v_getR (pc := 5) (t := 1) hX (hcs 0 (Nat.le_of_ble_eq_true rfl) (Nat.le_of_ble_eq_true rfl)) sh_0 fl_10_10 rfl dX10_leftAt_5 ?_
    refine v_iload_n (pc := 8) 2 hX dX10_leftAt_8 rfl ?_
    obtain ⟨x3, h2, h⟩ := b1_e h
    refine v_callV (pc := 9) [.int w2] (some (.int x3)) M hX cv_10_101 (c_X6_hasVariable (sub_cs hcs (Nat.le_of_ble_eq_true rfl) (Nat.le_of_ble_eq_true rfl)) M w2 x3 h2) (hcs 1 (Nat.le_of_ble_eq_true rfl) (Nat.le_of_ble_eq_true rfl)) sh_1 rfl rfl rfl ⟨Nat.le_of_ble_eq_true rfl, Nat.le_of_ble_eq_true rfl⟩ (Nat.le_of_ble_eq_true rfl) dX10_leftAt_9 ?_
    show VV X 3 ad cs M 12 [(0, .ref (ad 0)), (1, .int w1), (2, .int w2)] [.int x3]
    refine v_if_ne (pc := 12) (tgt := 18) hX dX10_leftAt_12 (by decide) (fun h4 => ?_) (fun h4 => ?_)
    · have h := if_f h h4
      refine v_iload_n (pc := 18) 1 hX dX10_leftAt_18 rfl ?_
      refine v_aload_n (pc := 19) 0 hX dX10_leftAt_19 rfl ?_
      refine v_getR (pc := 20) (t := 1) hX (hcs 0 (Nat.le_of_ble_eq_true rfl) (Nat.le_of_ble_eq_true rfl)) sh_0 fl_10_10 rfl dX10_leftAt_20 ?_
      refine v_getR (pc := 23) (t := 11) hX (hcs 1 (Nat.le_of_ble_eq_true rfl) (Nat.le_of_ble_eq_true rfl)) sh_1 fl_10_139 rfl dX10_leftAt_23 ?_
      refine v_getI (pc := 26) hX (hcs 11 (Nat.le_of_ble_eq_true rfl) (Nat.le_of_ble_eq_true rfl)) sh_11 fl_10_206 rfl dX10_leftAt_26 ?_
      refine v_icmp_lt (pc := 29) (tgt := 35) hX dX10_leftAt_29 (by decide) (fun h5 => ?_) (fun h5 => ?_)
      · have h := if_t h h5
        refine v_aload_n (pc := 35) 0 hX dX10_leftAt_35 rfl ?_
        refine v_getR (pc := 36) (t := 1) hX (hcs 0 (Nat.le_of_ble_eq_true rfl) (Nat.le_of_ble_eq_true rfl)) sh_0 fl_10_10 rfl dX10_leftAt_36 ?_
        refine v_getR (pc := 39) (t := 11) hX (hcs 1 (Nat.le_of_ble_eq_true rfl) (Nat.le_of_ble_eq_true rfl)) sh_1 fl_10_139 rfl dX10_leftAt_39 ?_
        refine v_getR (pc := 42) (t := 13) hX (hcs 11 (Nat.le_of_ble_eq_true rfl) (Nat.le_of_ble_eq_true rfl)) sh_11 fl_10_209 rfl dX10_leftAt_42 ?_
        refine v_iconst (pc := 45) hX dX10_leftAt_45 ic_3 ?_
        refine v_iload_n (pc := 46) 1 hX dX10_leftAt_46 rfl ?_
        refine v_imul (pc := 47) hX dX10_leftAt_47 ?_
        refine v_iload_n (pc := 48) 2 hX dX10_leftAt_48 rfl ?_
        refine v_iadd (pc := 49) hX dX10_leftAt_49 ?_
        obtain ⟨g6, h⟩ := gd_e h
        refine v_iald (pc := 50) hX (hcs 13 (Nat.le_of_ble_eq_true rfl) (Nat.le_of_ble_eq_true rfl)) sh_13 g6 rfl dX10_leftAt_50 ?_
        obtain rfl := Option.some.inj h
        exact v_iret (pc := 51) hX hR dX10_leftAt_51
      · have h := if_f h h5
        refine v_ldc (pc := 32) hX kc_10_178 dX10_leftAt_32 ?_
        obtain rfl := Option.some.inj h
        exact v_iret (pc := 34) hX hR dX10_leftAt_34
    · have h := if_t h h4
      refine v_ldc (pc := 15) hX kc_10_66 dX10_leftAt_15 ?_
      obtain rfl := Option.some.inj h
      exact v_iret (pc := 17) hX hR dX10_leftAt_17
set_option maxHeartbeats 4000000 in
set_option maxRecDepth 100000 in
theorem c_X10_boundOf {ad : Nat → Nat} {cs : List Nat} (hcs : ∀ k, 0 ≤ k → k < 8 → k ∈ cs) (M : Mm) (w1 : Int32) (q : Int32) (h : fX10_boundOf M w1 = some q) : CT ad cs yX10_boundOf cX10_boundOf 2 (some .int) 1 22 [.ref (ad 0), .int w1] M (some (.int q)) M := by
  refine CT.of RX10 (by decide +kernel) rfl (Nat.le_of_ble_eq_true rfl) (fun X hX hR => ?_)
  unfold fX10_boundOf at h
  show VV X 2 ad cs M 0 [(0, .ref (ad 0)), (1, .int w1)] []
  refine v_iload_n (pc := 0) 1 hX dX10_boundOf_0 rfl ?_
  refine v_bipush (pc := 1) hX dX10_boundOf_1 bp_10 ?_
  refine v_bipush (pc := 3) hX dX10_boundOf_3 bp_9 ?_
  refine v_aload_n (pc := 5) 0 hX dX10_boundOf_5 rfl ?_
  refine v_getR (pc := 6) (t := 1) hX (hcs 0 (Nat.le_of_ble_eq_true rfl) (Nat.le_of_ble_eq_true rfl)) sh_0 fl_10_10 rfl dX10_boundOf_6 ?_
  refine v_getI (pc := 9) hX (hcs 1 (Nat.le_of_ble_eq_true rfl) (Nat.le_of_ble_eq_true rfl)) sh_1 fl_10_67 rfl dX10_boundOf_9 ?_
  refine v_iadd (pc := 12) hX dX10_boundOf_12 ?_
  obtain ⟨x2, h1, h⟩ := b1_e h
  refine v_callS (pc := 13) [.int w1, .int 10, .int (9 + (M.1 1 0))] (some (.int x2)) M hX cv_10_62 (c_X10_within M w1 10 (9 + (M.1 1 0)) x2 h1) rfl rfl ⟨Nat.le_of_ble_eq_true rfl, Nat.le_of_ble_eq_true rfl⟩ (Nat.le_of_ble_eq_true rfl) dX10_boundOf_13 ?_
  show VV X 2 ad cs M 16 [(0, .ref (ad 0)), (1, .int w1)] [.int x2]
  refine v_if_eq (pc := 16) (tgt := 35) hX dX10_boundOf_16 (by decide) (fun h3 => ?_) (fun h3 => ?_)
  · have h := if_t h h3
    refine v_iload_n (pc := 35) 1 hX dX10_boundOf_35 rfl ?_
    refine v_bipush (pc := 36) hX dX10_boundOf_36 bp_20 ?_
    refine v_bipush (pc := 38) hX dX10_boundOf_38 bp_19 ?_
    refine v_aload_n (pc := 40) 0 hX dX10_boundOf_40 rfl ?_
    refine v_getR (pc := 41) (t := 1) hX (hcs 0 (Nat.le_of_ble_eq_true rfl) (Nat.le_of_ble_eq_true rfl)) sh_0 fl_10_10 rfl dX10_boundOf_41 ?_
    refine v_getI (pc := 44) hX (hcs 1 (Nat.le_of_ble_eq_true rfl) (Nat.le_of_ble_eq_true rfl)) sh_1 fl_10_67 rfl dX10_boundOf_44 ?_
    refine v_iadd (pc := 47) hX dX10_boundOf_47 ?_
    obtain ⟨x5, h4, h⟩ := b1_e h
    refine v_callS (pc := 48) [.int w1, .int 20, .int (19 + (M.1 1 0))] (some (.int x5)) M hX cv_10_62 (c_X10_within M w1 20 (19 + (M.1 1 0)) x5 h4) rfl rfl ⟨Nat.le_of_ble_eq_true rfl, Nat.le_of_ble_eq_true rfl⟩ (Nat.le_of_ble_eq_true rfl) dX10_boundOf_48 ?_
    show VV X 2 ad cs M 51 [(0, .ref (ad 0)), (1, .int w1)] [.int x5]
    refine v_if_eq (pc := 51) (tgt := 70) hX dX10_boundOf_51 (by decide) (fun h6 => ?_) (fun h6 => ?_)
    · have h := if_t h h6
      refine v_ldc (pc := 70) hX kc_10_66 dX10_boundOf_70 ?_
      obtain rfl := Option.some.inj h
      exact v_iret (pc := 72) hX hR dX10_boundOf_72
    · have h := if_f h h6
      refine v_aload_n (pc := 54) 0 hX dX10_boundOf_54 rfl ?_
      refine v_getR (pc := 55) (t := 1) hX (hcs 0 (Nat.le_of_ble_eq_true rfl) (Nat.le_of_ble_eq_true rfl)) sh_0 fl_10_10 rfl dX10_boundOf_55 ?_
      refine v_getR (pc := 58) (t := 5) hX (hcs 1 (Nat.le_of_ble_eq_true rfl) (Nat.le_of_ble_eq_true rfl)) sh_1 fl_10_105 rfl dX10_boundOf_58 ?_
      refine v_getR (pc := 61) (t := 7) hX (hcs 5 (Nat.le_of_ble_eq_true rfl) (Nat.le_of_ble_eq_true rfl)) sh_5 fl_10_114 rfl dX10_boundOf_61 ?_
      refine v_iload_n (pc := 64) 1 hX dX10_boundOf_64 rfl ?_
      refine v_bipush (pc := 65) hX dX10_boundOf_65 bp_20 ?_
      refine v_isub (pc := 67) hX dX10_boundOf_67 ?_
      obtain ⟨g7, h⟩ := gd_e h
      refine v_iald (pc := 68) hX (hcs 7 (Nat.le_of_ble_eq_true rfl) (Nat.le_of_ble_eq_true rfl)) sh_7 g7 rfl dX10_boundOf_68 ?_
      obtain rfl := Option.some.inj h
      exact v_iret (pc := 69) hX hR dX10_boundOf_69
  · have h := if_f h h3
    refine v_aload_n (pc := 19) 0 hX dX10_boundOf_19 rfl ?_
    refine v_getR (pc := 20) (t := 1) hX (hcs 0 (Nat.le_of_ble_eq_true rfl) (Nat.le_of_ble_eq_true rfl)) sh_0 fl_10_10 rfl dX10_boundOf_20 ?_
    refine v_getR (pc := 23) (t := 5) hX (hcs 1 (Nat.le_of_ble_eq_true rfl) (Nat.le_of_ble_eq_true rfl)) sh_1 fl_10_105 rfl dX10_boundOf_23 ?_
    refine v_getR (pc := 26) (t := 6) hX (hcs 5 (Nat.le_of_ble_eq_true rfl) (Nat.le_of_ble_eq_true rfl)) sh_5 fl_10_109 rfl dX10_boundOf_26 ?_
    refine v_iload_n (pc := 29) 1 hX dX10_boundOf_29 rfl ?_
    refine v_bipush (pc := 30) hX dX10_boundOf_30 bp_10 ?_
    refine v_isub (pc := 32) hX dX10_boundOf_32 ?_
    obtain ⟨g8, h⟩ := gd_e h
    refine v_iald (pc := 33) hX (hcs 6 (Nat.le_of_ble_eq_true rfl) (Nat.le_of_ble_eq_true rfl)) sh_6 g8 rfl dX10_boundOf_33 ?_
    obtain rfl := Option.some.inj h
    exact v_iret (pc := 34) hX hR dX10_boundOf_34
