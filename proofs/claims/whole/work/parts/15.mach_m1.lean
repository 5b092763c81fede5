set_option maxHeartbeats 4000000 in
set_option maxRecDepth 100000 in
theorem c_X11_order {ad : Nat → Nat} {cs : List Nat} (hcs : ∀ k, 95 ≤ k → k < 98 → k ∈ cs) (M : Mm) (w1 : Int32) (w2 : Int32) (q : Int32 × Mm) (h : fX11_order M w1 w2 = some q) : CT ad cs yX11_order cX11_order 4 (some .int) 1 22 [.ref (ad 95), .int w1, .int w2] M (some (.int q.1)) q.2 := by
  refine CT.of RX11 (by decide +kernel) rfl (Nat.le_of_ble_eq_true rfl) (fun X hX hR => ?_)
  unfold fX11_order at h
  show VV X 4 ad cs M 0 [(0, .ref (ad 95)), (1, .int w1), (2, .int w2)] []
  refine v_iload_n (pc := 0) 1 hX dX11_order_0 rfl ?_
  refine v_iconst (pc := 1) hX dX11_order_1 ic_0 ?_
  refine v_iconst (pc := 2) hX dX11_order_2 ic_2 ?_
  obtain ⟨x2, h1, h⟩ := b1_e h
  refine v_callS (pc := 3) [.int w1, .int 0, .int 2] (some (.int x2)) M hX cv_11_48 (c_X11_in M w1 0 2 x2 h1) rfl rfl ⟨Nat.le_of_ble_eq_true rfl, Nat.le_of_ble_eq_true rfl⟩ (Nat.le_of_ble_eq_true rfl) dX11_order_3 ?_
  show VV X 4 ad cs M 6 [(0, .ref (ad 95)), (1, .int w1), (2, .int w2)] [.int x2]
  refine v_if_eq (pc := 6) (tgt := 18) hX dX11_order_6 (by decide) (fun h3 => ?_) (fun h3 => ?_)
  · have h := if_t h h3
    refine v_ldc (pc := 18) hX kc_11_70 dX11_order_18 ?_
    obtain rfl := Option.some.inj h
    exact v_iret (pc := 20) hX hR dX11_order_20
  · have h := if_f h h3
    refine v_iload_n (pc := 9) 2 hX dX11_order_9 rfl ?_
    refine v_iconst (pc := 10) hX dX11_order_10 ic_0 ?_
    refine v_iconst (pc := 11) hX dX11_order_11 ic_1 ?_
    obtain ⟨x5, h4, h⟩ := b1_e h
    refine v_callS (pc := 12) [.int w2, .int 0, .int 1] (some (.int x5)) M hX cv_11_48 (c_X11_in M w2 0 1 x5 h4) rfl rfl ⟨Nat.le_of_ble_eq_true rfl, Nat.le_of_ble_eq_true rfl⟩ (Nat.le_of_ble_eq_true rfl) dX11_order_12 ?_
    show VV X 4 ad cs M 15 [(0, .ref (ad 95)), (1, .int w1), (2, .int w2)] [.int x5]
    refine v_if_ne (pc := 15) (tgt := 21) hX dX11_order_15 (by decide) (fun h6 => ?_) (fun h6 => ?_)
    · have h := if_f h h6
      refine v_aload_n (pc := 21) 0 hX dX11_order_21 rfl ?_
      obtain ⟨M8, h7, h⟩ := b1_e h
      refine v_callV (pc := 22) [] none M8 hX cv_11_45 (c_X11_record (sub_cs hcs (Nat.le_of_ble_eq_true rfl) (Nat.le_of_ble_eq_true rfl)) M M8 h7) (hcs 95 (Nat.le_of_ble_eq_true rfl) (Nat.le_of_ble_eq_true rfl)) sh_95 rfl rfl rfl ⟨Nat.le_of_ble_eq_true rfl, Nat.le_of_ble_eq_true rfl⟩ (Nat.le_of_ble_eq_true rfl) dX11_order_22 ?_
      show VV X 4 ad cs M8 25 [(0, .ref (ad 95)), (1, .int w1), (2, .int w2)] []
      refine v_bipush (pc := 25) hX dX11_order_25 bp_10 ?_
      refine v_aload_n (pc := 27) 0 hX dX11_order_27 rfl ?_
      refine v_getR (pc := 28) (t := 96) hX (hcs 95 (Nat.le_of_ble_eq_true rfl) (Nat.le_of_ble_eq_true rfl)) sh_95 fl_11_7 rfl dX11_order_28 ?_
      refine v_iconst (pc := 31) hX dX11_order_31 ic_4 ?_
      refine v_iald (pc := 32) hX (hcs 96 (Nat.le_of_ble_eq_true rfl) (Nat.le_of_ble_eq_true rfl)) sh_96 (ib_4 (by decide)) ix_4 dX11_order_32 ?_
      refine v_imul (pc := 33) hX dX11_order_33 ?_
      refine v_aload_n (pc := 34) 0 hX dX11_order_34 rfl ?_
      refine v_getR (pc := 35) (t := 96) hX (hcs 95 (Nat.le_of_ble_eq_true rfl) (Nat.le_of_ble_eq_true rfl)) sh_95 fl_11_7 rfl dX11_order_35 ?_
      refine v_iconst (pc := 38) hX dX11_order_38 ic_5 ?_
      refine v_iald (pc := 39) hX (hcs 96 (Nat.le_of_ble_eq_true rfl) (Nat.le_of_ble_eq_true rfl)) sh_96 (ib_5 (by decide)) ix_5 dX11_order_39 ?_
      refine v_iadd (pc := 40) hX dX11_order_40 ?_
      obtain ⟨x9, ex9, h⟩ := bd_e h
      refine v_top ex9 ?_
      refine v_istore_n (pc := 41) [(3, .int x9), (0, .ref (ad 95)), (1, .int w1), (2, .int w2)] hX dX11_order_41 (by decide) rfl ?_
      refine v_aload_n (pc := 42) 1 hX dX11_order_42 rfl ?_
      refine v_getR (pc := 43) (t := 96) hX (hcs 95 (Nat.le_of_ble_eq_true rfl) (Nat.le_of_ble_eq_true rfl)) sh_95 fl_11_7 rfl dX11_order_43 ?_
      refine v_iconst (pc := 46) hX dX11_order_46 ic_4 ?_
      refine v_iload_n (pc := 47) 2 hX dX11_order_47 rfl ?_
      obtain ⟨M10, eM10, h⟩ := bd_e h
      refine v_iast (pc := 48) hX (hcs 96 (Nat.le_of_ble_eq_true rfl) (Nat.le_of_ble_eq_true rfl)) sh_96 (ib_4 (by decide)) ix_4 dX11_order_48 eM10 ?_
      refine v_aload_n (pc := 49) 1 hX dX11_order_49 rfl ?_
      refine v_getR (pc := 50) (t := 96) hX (hcs 95 (Nat.le_of_ble_eq_true rfl) (Nat.le_of_ble_eq_true rfl)) sh_95 fl_11_7 rfl dX11_order_50 ?_
      refine v_iconst (pc := 53) hX dX11_order_53 ic_5 ?_
      refine v_iload_n (pc := 54) 3 hX dX11_order_54 rfl ?_
      obtain ⟨M11, eM11, h⟩ := bd_e h
      refine v_iast (pc := 55) hX (hcs 96 (Nat.le_of_ble_eq_true rfl) (Nat.le_of_ble_eq_true rfl)) sh_96 (ib_5 (by decide)) ix_5 dX11_order_55 eM11 ?_
      refine v_iload_n (pc := 56) 0 hX dX11_order_56 rfl ?_
      obtain rfl := Option.some.inj h
      exact v_iret (pc := 57) hX hR dX11_order_57
    · have h := if_t h h6
      refine v_ldc (pc := 18) hX kc_11_70 dX11_order_18 ?_
      obtain rfl := Option.some.inj h
      exact v_iret (pc := 20) hX hR dX11_order_20
set_option maxHeartbeats 4000000 in
set_option maxRecDepth 100000 in
theorem c_X11_canPoll {ad : Nat → Nat} {cs : List Nat} (hcs : ∀ k, 95 ≤ k → k < 97 → k ∈ cs) (M : Mm) (q : Int32) (h : fX11_canPoll M = some q) : CT ad cs yX11_canPoll cX11_canPoll 1 (some .boolean) 3 65 [.ref (ad 95)] M (some (.int q)) M := by
  refine CT.of RX11 (by decide +kernel) rfl (Nat.le_of_ble_eq_true rfl) (fun X hX hR => ?_)
  unfold fX11_canPoll at h
  show VV X 1 ad cs M 0 [(0, .ref (ad 95))] []
  refine v_aload_n (pc := 0) 0 hX dX11_canPoll_0 rfl ?_
  obtain ⟨x2, h1, h⟩ := b1_e h
  refine v_callV (pc := 1) [] (some (.int x2)) M hX cv_11_91 (c_X11_isHereAllowed (sub_cs hcs (Nat.le_of_ble_eq_true rfl) (Nat.le_of_ble_eq_true rfl)) M x2 h1) (hcs 95 (Nat.le_of_ble_eq_true rfl) (Nat.le_of_ble_eq_true rfl)) sh_95 rfl rfl rfl ⟨Nat.le_of_ble_eq_true rfl, Nat.le_of_ble_eq_true rfl⟩ (Nat.le_of_ble_eq_true rfl) dX11_canPoll_1 ?_
  show VV X 1 ad cs M 4 [(0, .ref (ad 95))] [.int x2]
  refine v_if_eq (pc := 4) (tgt := 20) hX dX11_canPoll_4 (by decide) (fun h3 => ?_) (fun h3 => ?_)
  · have h := if_t h h3
    refine v_iconst (pc := 20) hX dX11_canPoll_20 ic_0 ?_
    obtain rfl := Option.some.inj h
    exact v_zret (pc := 21) hX hR (Or.inl rfl) dX11_canPoll_21
  · have h := if_f h h3
    refine v_aload_n (pc := 7) 0 hX dX11_canPoll_7 rfl ?_
    refine v_getR (pc := 8) (t := 96) hX (hcs 95 (Nat.le_of_ble_eq_true rfl) (Nat.le_of_ble_eq_true rfl)) sh_95 fl_11_7 rfl dX11_canPoll_8 ?_
    refine v_iconst (pc := 11) hX dX11_canPoll_11 ic_2 ?_
    refine v_iald (pc := 12) hX (hcs 96 (Nat.le_of_ble_eq_true rfl) (Nat.le_of_ble_eq_true rfl)) sh_96 (ib_2 (by decide)) ix_2 dX11_canPoll_12 ?_
    refine v_if_le (pc := 13) (tgt := 20) hX dX11_canPoll_13 (by decide) (fun h4 => ?_) (fun h4 => ?_)
    · have h := if_t h h4
      refine v_iconst (pc := 20) hX dX11_canPoll_20 ic_0 ?_
      obtain rfl := Option.some.inj h
      exact v_zret (pc := 21) hX hR (Or.inl rfl) dX11_canPoll_21
    · have h := if_f h h4
      refine v_iconst (pc := 16) hX dX11_canPoll_16 ic_1 ?_
      refine v_goto (pc := 17) (tgt := 21) hX dX11_canPoll_17 (by decide) ?_
      obtain rfl := Option.some.inj h
      exact v_zret (pc := 21) hX hR (Or.inr rfl) dX11_canPoll_21
set_option maxHeartbeats 4000000 in
set_option maxRecDepth 100000 in
theorem c_X11_trialAt {ad : Nat → Nat} {cs : List Nat} (hcs : ∀ k, 95 ≤ k → k < 97 → k ∈ cs) (M : Mm) (w1 : Int32) (w2 : Int32) (w3 : Int32) (q : Int32) (h : fX11_trialAt M w1 w2 w3 = some q) : CT ad cs yX11_trialAt cX11_trialAt 4 (some .int) 1 22 [.ref (ad 95), .int w1, .int w2, .int w3] M (some (.int q)) M := by
  refine CT.of RX11 (by decide +kernel) rfl (Nat.le_of_ble_eq_true rfl) (fun X hX hR => ?_)
  unfold fX11_trialAt at h
  show VV X 4 ad cs M 0 [(0, .ref (ad 95)), (1, .int w1), (2, .int w2), (3, .int w3)] []
  refine v_aload_n (pc := 0) 0 hX dX11_trialAt_0 rfl ?_
  refine v_getR (pc := 1) (t := 96) hX (hcs 95 (Nat.le_of_ble_eq_true rfl) (Nat.le_of_ble_eq_true rfl)) sh_95 fl_11_7 rfl dX11_trialAt_1 ?_
  refine v_bipush (pc := 4) hX dX11_trialAt_4 bp_18 ?_
  refine v_iload_n (pc := 6) 2 hX dX11_trialAt_6 rfl ?_
  refine v_iadd (pc := 7) hX dX11_trialAt_7 ?_
  obtain ⟨g1, h⟩ := gd_e h
  refine v_iald (pc := 8) hX (hcs 96 (Nat.le_of_ble_eq_true rfl) (Nat.le_of_ble_eq_true rfl)) sh_96 g1 rfl dX11_trialAt_8 ?_
  refine v_iload_n (pc := 9) 3 hX dX11_trialAt_9 rfl ?_
  refine v_aload_n (pc := 10) 0 hX dX11_trialAt_10 rfl ?_
  refine v_iload_n (pc := 11) 1 hX dX11_trialAt_11 rfl ?_
  refine v_iload_n (pc := 12) 2 hX dX11_trialAt_12 rfl ?_
  obtain ⟨x3, h2, h⟩ := b1_e h
  refine v_callV (pc := 13) [.int w1, .int w2] (some (.int x3)) M hX cv_11_98 (c_X11_step (sub_cs hcs (Nat.le_of_ble_eq_true rfl) (Nat.le_of_ble_eq_true rfl)) M w1 w2 x3 h2) (hcs 95 (Nat.le_of_ble_eq_true rfl) (Nat.le_of_ble_eq_true rfl)) sh_95 rfl rfl rfl ⟨Nat.le_of_ble_eq_true rfl, Nat.le_of_ble_eq_true rfl⟩ (Nat.le_of_ble_eq_true rfl) dX11_trialAt_13 ?_
  show VV X 4 ad cs M 16 [(0, .ref (ad 95)), (1, .int w1), (2, .int w2), (3, .int w3)] [.int x3, .int w3, .int (M.1 96 (ix (18 + w2)))]
  refine v_imul (pc := 16) hX dX11_trialAt_16 ?_
  refine v_iadd (pc := 17) hX dX11_trialAt_17 ?_
  obtain rfl := Option.some.inj h
  exact v_iret (pc := 18) hX hR dX11_trialAt_18
set_option maxHeartbeats 4000000 in
set_option maxRecDepth 100000 in
theorem c_X11_power {ad : Nat → Nat} {cs : List Nat} (M : Mm) (w0 : Int32) (w1 : Int32) (q : Int64) (h : fX11_power w0 w1 = some q) : CT ad cs yX11_power cX11_power 5 (some .long) 0 0 [.int w0, .int w1] M (some (.long q)) M := by
  refine CT.of RX11 (by decide +kernel) rfl (Nat.le_of_ble_eq_true rfl) (fun X hX hR => ?_)
  unfold fX11_power at h
  show VV X 5 ad cs M 0 [(0, .int w0), (1, .int w1)] []
  refine v_lconst (v := 1) (pc := 0) hX dX11_power_0 (by decide) ?_
  refine v_lstore_n (pc := 1) [(2, .long 1), (0, .int w0), (1, .int w1)] hX dX11_power_1 (by decide) rfl ?_
  refine v_iconst (pc := 2) hX dX11_power_2 ic_0 ?_
  refine v_istore (pc := 3) [(4, .int 0), (2, .long 1), (0, .int w0), (1, .int w1)] hX dX11_power_3 (by decide) rfl ?_
  have L6 := v_itr (fX11_power_L5 w1 w0) (fun z => VV X 5 ad cs M 5 [(0, .int w0), (1, .int w1), (2, .long z.1), (4, .int z.2)] []) (fun z => VV X 5 ad cs M 22 [(2, .long z)] []) (by
    rintro ⟨y1, x2⟩ q h hK
    unfold fX11_power_L5 at h
    have h := u2_b h
    show VV X 5 ad cs M 5 [(0, .int w0), (1, .int w1), (2, .long y1), (4, .int x2)] []
    refine v_iload (pc := 5) 3 hX dX11_power_5 rfl ?_
    refine v_iload_n (pc := 7) 1 hX dX11_power_7 rfl ?_
    refine v_icmp_ge (pc := 8) (tgt := 22) hX dX11_power_8 (by decide) (fun h3 => ?_) (fun h3 => ?_)
    · have h := if_t h h3
      obtain rfl := Option.some.inj h
      exact v_sub [2] rfl hK
    · have h := if_f h h3
      refine v_lload_n (pc := 11) 2 hX dX11_power_11 rfl ?_
      refine v_iload_n (pc := 12) 0 hX dX11_power_12 rfl ?_
      refine v_i2l (pc := 13) hX dX11_power_13 ?_
      refine v_lmul (pc := 14) hX dX11_power_14 ?_
      obtain ⟨y4, ey4, h⟩ := bd_e h
      refine v_topl ey4 ?_
      refine v_lstore_n (pc := 15) [(2, .long y4), (0, .int w0), (1, .int w1), (4, .int x2)] hX dX11_power_15 (by decide) rfl ?_
      obtain ⟨x5, ex5, h⟩ := bd_e h
      refine v_iinc (v := x5) (pc := 16) 3 [(4, .int x5), (2, .long y4), (0, .int w0), (1, .int w1)] hX dX11_power_16 rfl (ex5.trans (by rw [ic_1])) (by decide) rfl ?_
      refine v_goto (pc := 19) (tgt := 5) hX dX11_power_19 (by decide) ?_
      obtain rfl := Option.some.inj h
      exact v_sub [2, 3, 1, 0] rfl hK
  )
  obtain ⟨y7, h8, h⟩ := b1_e h
  refine v_sub [2, 3, 1, 0] rfl ?_
  refine L6 1000 _ _ h8 ?_
  show VV X 5 ad cs M 22 [(2, .long y7)] []
  refine v_lload_n (pc := 22) 0 hX dX11_power_22 rfl ?_
  obtain rfl := Option.some.inj h
  exact v_lret (pc := 23) hX hR dX11_power_23
set_option maxHeartbeats 4000000 in
set_option maxRecDepth 100000 in
theorem c_X11_valueAt {ad : Nat → Nat} {cs : List Nat} (hcs : ∀ k, 95 ≤ k → k < 97 → k ∈ cs) (M : Mm) (w1 : Int32) (w2 : Int32) (w3 : Int32) (w4 : Int32) (q : Int64) (h : fX11_valueAt M w1 w2 w3 w4 = some q) : CT ad cs yX11_valueAt cX11_valueAt 10 (some .long) 1 24 [.ref (ad 95), .int w1, .int w2, .int w3, .int w4] M (some (.long q)) M := by
  refine CT.of RX11 (by decide +kernel) rfl (Nat.le_of_ble_eq_true rfl) (fun X hX hR => ?_)
  unfold fX11_valueAt at h
  show VV X 10 ad cs M 0 [(0, .ref (ad 95)), (1, .int w1), (2, .int w2), (3, .int w3), (4, .int w4)] []
  refine v_lconst (v := 0) (pc := 0) hX dX11_valueAt_0 (by decide) ?_
  refine v_lstore (pc := 1) [(5, .long 0), (0, .ref (ad 95)), (1, .int w1), (2, .int w2), (3, .int w3), (4, .int w4)] hX dX11_valueAt_1 (by decide) rfl ?_
  refine v_iconst (pc := 3) hX dX11_valueAt_3 ic_0 ?_
  refine v_istore (pc := 4) [(7, .int 0), (5, .long 0), (0, .ref (ad 95)), (1, .int w1), (2, .int w2), (3, .int w3), (4, .int w4)] hX dX11_valueAt_4 (by decide) rfl ?_
  have L31 := v_itr (fX11_valueAt_L6 M w1 w2 w3 w4) (fun z => VV X 10 ad cs M 6 [(0, .ref (ad 95)), (1, .int w1), (2, .int w2), (3, .int w3), (4, .int w4), (5, .long z.1), (7, .int z.2)] []) (fun z => VV X 10 ad cs M 141 [(5, .long z)] []) (by
    rintro ⟨y1, x2⟩ q h hK
    unfold fX11_valueAt_L6 at h
    have h := u2_b h
    show VV X 10 ad cs M 6 [(0, .ref (ad 95)), (1, .int w1), (2, .int w2), (3, .int w3), (4, .int w4), (5, .long y1), (7, .int x2)] []
    refine v_iload (pc := 6) 6 hX dX11_valueAt_6 rfl ?_
    refine v_aload_n (pc := 8) 0 hX dX11_valueAt_8 rfl ?_
    refine v_getR (pc := 9) (t := 96) hX (hcs 95 (Nat.le_of_ble_eq_true rfl) (Nat.le_of_ble_eq_true rfl)) sh_95 fl_11_7 rfl dX11_valueAt_9 ?_
    refine v_iconst (pc := 12) hX dX11_valueAt_12 ic_1 ?_
    refine v_iald (pc := 13) hX (hcs 96 (Nat.le_of_ble_eq_true rfl) (Nat.le_of_ble_eq_true rfl)) sh_96 (ib_1 (by decide)) ix_1 dX11_valueAt_13 ?_
    refine v_icmp_ge (pc := 14) (tgt := 141) hX dX11_valueAt_14 (by decide) (fun h3 => ?_) (fun h3 => ?_)
    · have h := if_t h h3
      obtain rfl := Option.some.inj h
      exact v_sub [5] rfl hK
    · have h := if_f h h3
      refine v_bipush (pc := 17) hX dX11_valueAt_17 bp_21 ?_
      refine v_iconst (pc := 19) hX dX11_valueAt_19 ic_4 ?_
      refine v_iload (pc := 20) 6 hX dX11_valueAt_20 rfl ?_
      refine v_imul (pc := 22) hX dX11_valueAt_22 ?_
      refine v_iadd (pc := 23) hX dX11_valueAt_23 ?_
      obtain ⟨x4, ex4, h⟩ := bd_e h
      refine v_top ex4 ?_
      refine v_istore (pc := 24) [(8, .int x4), (0, .ref (ad 95)), (1, .int w1), (2, .int w2), (3, .int w3), (4, .int w4), (5, .long y1), (7, .int x2)] hX dX11_valueAt_24 (by decide) rfl ?_
      refine v_iload (pc := 26) 5 hX dX11_valueAt_26 rfl ?_
      obtain ⟨k5, ek5, h⟩ := bd_e h
      have K6 : ∀ (x7 : Int32), k5 x7 = some q → VV X 10 ad cs M 69 [(0, .ref (ad 95)), (1, .int w1), (2, .int w2), (3, .int w3), (4, .int w4), (5, .long y1), (7, .int x2), (8, .int x4)] [.int x7] := by
        intro x7 h
        subst ek5
        refine v_istore (pc := 69) [(9, .int x7), (0, .ref (ad 95)), (1, .int w1), (2, .int w2), (3, .int w3), (4, .int w4), (5, .long y1), (7, .int x2), (8, .int x4)] hX dX11_valueAt_69 (by decide) rfl ?_
        refine v_lload (pc := 71) 6 hX dX11_valueAt_71 rfl ?_
        refine v_iload (pc := 73) 0 hX dX11_valueAt_73 rfl ?_
        obtain ⟨k8, ek8, h⟩ := bd_e h
        have K9 : ∀ (y10 : Int64), k8 y10 = some q → VV X 10 ad cs M 132 [(0, .ref (ad 95)), (1, .int w1), (2, .int w2), (3, .int w3), (4, .int w4), (7, .int x2)] [.long y10, .long y1] := by
          intro y10 h
          subst ek8
          refine v_ladd (pc := 132) hX dX11_valueAt_132 ?_
          obtain ⟨y11, ey11, h⟩ := bd_e h
          refine v_topl ey11 ?_
          refine v_lstore (pc := 133) [(5, .long y11), (0, .ref (ad 95)), (1, .int w1), (2, .int w2), (3, .int w3), (4, .int w4), (7, .int x2)] hX dX11_valueAt_133 (by decide) rfl ?_
          obtain ⟨x12, ex12, h⟩ := bd_e h
          refine v_iinc (v := x12) (pc := 135) 6 [(7, .int x12), (5, .long y11), (0, .ref (ad 95)), (1, .int w1), (2, .int w2), (3, .int w3), (4, .int w4)] hX dX11_valueAt_135 rfl (ex12.trans (by rw [ic_1])) (by decide) rfl ?_
          refine v_goto (pc := 138) (tgt := 6) hX dX11_valueAt_138 (by decide) ?_
          obtain rfl := Option.some.inj h
          exact v_sub [2, 3, 4, 5, 6, 1, 0] rfl hK
        refine v_if_eq (pc := 75) (tgt := 131) hX dX11_valueAt_75 (by decide) (fun h13 => ?_) (fun h13 => ?_)
        · have h := if_t h h13
          refine v_lconst (v := 0) (pc := 131) hX dX11_valueAt_131 (by decide) ?_
          exact v_sub [1, 2, 3, 4, 5, 7] rfl (K9 0 h)
        · have h := if_f h h13
          refine v_aload_n (pc := 78) 1 hX dX11_valueAt_78 rfl ?_
          refine v_getR (pc := 79) (t := 96) hX (hcs 95 (Nat.le_of_ble_eq_true rfl) (Nat.le_of_ble_eq_true rfl)) sh_95 fl_11_7 rfl dX11_valueAt_79 ?_
          refine v_iload (pc := 82) 8 hX dX11_valueAt_82 rfl ?_
          obtain ⟨g14, h⟩ := gd_e h
          refine v_iald (pc := 84) hX (hcs 96 (Nat.le_of_ble_eq_true rfl) (Nat.le_of_ble_eq_true rfl)) sh_96 g14 rfl dX11_valueAt_84 ?_
          refine v_i2l (pc := 85) hX dX11_valueAt_85 ?_
          refine v_iload_n (pc := 86) 2 hX dX11_valueAt_86 rfl ?_
          refine v_aload_n (pc := 87) 1 hX dX11_valueAt_87 rfl ?_
          refine v_getR (pc := 88) (t := 96) hX (hcs 95 (Nat.le_of_ble_eq_true rfl) (Nat.le_of_ble_eq_true rfl)) sh_95 fl_11_7 rfl dX11_valueAt_88 ?_
          refine v_iload (pc := 91) 8 hX dX11_valueAt_91 rfl ?_
          refine v_iconst (pc := 93) hX dX11_valueAt_93 ic_1 ?_
          refine v_iadd (pc := 94) hX dX11_valueAt_94 ?_
          obtain ⟨g15, h⟩ := gd_e h
          refine v_iald (pc := 95) hX (hcs 96 (Nat.le_of_ble_eq_true rfl) (Nat.le_of_ble_eq_true rfl)) sh_96 g15 rfl dX11_valueAt_95 ?_
          obtain ⟨y17, h16, h⟩ := b1_e h
          refine v_callS (pc := 96) [.int w1, .int (M.1 96 (ix (x4 + 1)))] (some (.long y17)) M hX cv_11_55 (c_X11_power M w1 (M.1 96 (ix (x4 + 1))) y17 h16) rfl rfl ⟨Nat.le_of_ble_eq_true rfl, Nat.le_of_ble_eq_true rfl⟩ (Nat.le_of_ble_eq_true rfl) dX11_valueAt_96 ?_
          show VV X 10 ad cs M 99 [(9, .int x7), (0, .ref (ad 95)), (1, .int w1), (2, .int w2), (3, .int w3), (4, .int w4), (5, .long y1), (7, .int x2), (8, .int x4)] [.long y17, .long ((M.1 96 (ix x4)).toInt64), .long y1]
          refine v_lmul (pc := 99) hX dX11_valueAt_99 ?_
          refine v_iload_n (pc := 100) 3 hX dX11_valueAt_100 rfl ?_
          refine v_aload_n (pc := 101) 1 hX dX11_valueAt_101 rfl ?_
          refine v_getR (pc := 102) (t := 96) hX (hcs 95 (Nat.le_of_ble_eq_true rfl) (Nat.le_of_ble_eq_true rfl)) sh_95 fl_11_7 rfl dX11_valueAt_102 ?_
          refine v_iload (pc := 105) 8 hX dX11_valueAt_105 rfl ?_
          refine v_iconst (pc := 107) hX dX11_valueAt_107 ic_2 ?_
          refine v_iadd (pc := 108) hX dX11_valueAt_108 ?_
          obtain ⟨g18, h⟩ := gd_e h
          refine v_iald (pc := 109) hX (hcs 96 (Nat.le_of_ble_eq_true rfl) (Nat.le_of_ble_eq_true rfl)) sh_96 g18 rfl dX11_valueAt_109 ?_
          obtain ⟨y20, h19, h⟩ := b1_e h
          refine v_callS (pc := 110) [.int w2, .int (M.1 96 (ix (x4 + 2)))] (some (.long y20)) M hX cv_11_55 (c_X11_power M w2 (M.1 96 (ix (x4 + 2))) y20 h19) rfl rfl ⟨Nat.le_of_ble_eq_true rfl, Nat.le_of_ble_eq_true rfl⟩ (Nat.le_of_ble_eq_true rfl) dX11_valueAt_110 ?_
          show VV X 10 ad cs M 113 [(9, .int x7), (0, .ref (ad 95)), (1, .int w1), (2, .int w2), (3, .int w3), (4, .int w4), (5, .long y1), (7, .int x2), (8, .int x4)] [.long y20, .long (((M.1 96 (ix x4)).toInt64) * y17), .long y1]
          refine v_lmul (pc := 113) hX dX11_valueAt_113 ?_
          refine v_iload_n (pc := 114) 4 hX dX11_valueAt_114 rfl ?_
          refine v_aload_n (pc := 115) 1 hX dX11_valueAt_115 rfl ?_
          refine v_getR (pc := 116) (t := 96) hX (hcs 95 (Nat.le_of_ble_eq_true rfl) (Nat.le_of_ble_eq_true rfl)) sh_95 fl_11_7 rfl dX11_valueAt_116 ?_
          refine v_iload (pc := 119) 8 hX dX11_valueAt_119 rfl ?_
          refine v_iconst (pc := 121) hX dX11_valueAt_121 ic_3 ?_
          refine v_iadd (pc := 122) hX dX11_valueAt_122 ?_
          obtain ⟨g21, h⟩ := gd_e h
          refine v_iald (pc := 123) hX (hcs 96 (Nat.le_of_ble_eq_true rfl) (Nat.le_of_ble_eq_true rfl)) sh_96 g21 rfl dX11_valueAt_123 ?_
          obtain ⟨y23, h22, h⟩ := b1_e h
          refine v_callS (pc := 124) [.int w3, .int (M.1 96 (ix (x4 + 3)))] (some (.long y23)) M hX cv_11_55 (c_X11_power M w3 (M.1 96 (ix (x4 + 3))) y23 h22) rfl rfl ⟨Nat.le_of_ble_eq_true rfl, Nat.le_of_ble_eq_true rfl⟩ (Nat.le_of_ble_eq_true rfl) dX11_valueAt_124 ?_
          show VV X 10 ad cs M 127 [(9, .int x7), (0, .ref (ad 95)), (1, .int w1), (2, .int w2), (3, .int w3), (4, .int w4), (5, .long y1), (7, .int x2), (8, .int x4)] [.long y23, .long ((((M.1 96 (ix x4)).toInt64) * y17) * y20), .long y1]
          refine v_lmul (pc := 127) hX dX11_valueAt_127 ?_
          refine v_goto (pc := 128) (tgt := 132) hX dX11_valueAt_128 (by decide) ?_
          exact v_sub [1, 2, 3, 4, 5, 7] rfl (K9 (((((M.1 96 (ix x4)).toInt64) * y17) * y20) * y23) h)
      obtain ⟨k24, ek24, h⟩ := bd_e h
      have K25 : ∀ (_ : Unit), k24 () = some q → VV X 10 ad cs M 64 [(0, .ref (ad 95)), (1, .int w1), (2, .int w2), (3, .int w3), (4, .int w4), (5, .long y1), (7, .int x2), (8, .int x4)] [] := by
        intro _ h
        subst ek24
        refine v_iconst (pc := 64) hX dX11_valueAt_64 ic_1 ?_
        refine v_goto (pc := 65) (tgt := 69) hX dX11_valueAt_65 (by decide) ?_
        exact v_sub [0, 1, 2, 3, 4, 5, 6, 7] rfl (K6 1 h)
      refine v_if_eq (pc := 28) (tgt := 64) hX dX11_valueAt_28 (by decide) (fun h26 => ?_) (fun h26 => ?_)
      · have h := if_t h h26
        exact v_sub [1, 2, 3, 4, 5, 6, 7, 0] rfl (K25 () h)
      · have h := if_f h h26
        refine v_aload_n (pc := 31) 1 hX dX11_valueAt_31 rfl ?_
        refine v_getR (pc := 32) (t := 96) hX (hcs 95 (Nat.le_of_ble_eq_true rfl) (Nat.le_of_ble_eq_true rfl)) sh_95 fl_11_7 rfl dX11_valueAt_32 ?_
        refine v_iload (pc := 35) 0 hX dX11_valueAt_35 rfl ?_
        refine v_iconst (pc := 37) hX dX11_valueAt_37 ic_1 ?_
        refine v_iadd (pc := 38) hX dX11_valueAt_38 ?_
        obtain ⟨g27, h⟩ := gd_e h
        refine v_iald (pc := 39) hX (hcs 96 (Nat.le_of_ble_eq_true rfl) (Nat.le_of_ble_eq_true rfl)) sh_96 g27 rfl dX11_valueAt_39 ?_
        refine v_aload_n (pc := 40) 1 hX dX11_valueAt_40 rfl ?_
        refine v_getR (pc := 41) (t := 96) hX (hcs 95 (Nat.le_of_ble_eq_true rfl) (Nat.le_of_ble_eq_true rfl)) sh_95 fl_11_7 rfl dX11_valueAt_41 ?_
        refine v_iload (pc := 44) 0 hX dX11_valueAt_44 rfl ?_
        refine v_iconst (pc := 46) hX dX11_valueAt_46 ic_2 ?_
        refine v_iadd (pc := 47) hX dX11_valueAt_47 ?_
        obtain ⟨g28, h⟩ := gd_e h
        refine v_iald (pc := 48) hX (hcs 96 (Nat.le_of_ble_eq_true rfl) (Nat.le_of_ble_eq_true rfl)) sh_96 g28 rfl dX11_valueAt_48 ?_
        refine v_iadd (pc := 49) hX dX11_valueAt_49 ?_
        refine v_aload_n (pc := 50) 1 hX dX11_valueAt_50 rfl ?_
        refine v_getR (pc := 51) (t := 96) hX (hcs 95 (Nat.le_of_ble_eq_true rfl) (Nat.le_of_ble_eq_true rfl)) sh_95 fl_11_7 rfl dX11_valueAt_51 ?_
        refine v_iload (pc := 54) 0 hX dX11_valueAt_54 rfl ?_
        refine v_iconst (pc := 56) hX dX11_valueAt_56 ic_3 ?_
        refine v_iadd (pc := 57) hX dX11_valueAt_57 ?_
        obtain ⟨g29, h⟩ := gd_e h
        refine v_iald (pc := 58) hX (hcs 96 (Nat.le_of_ble_eq_true rfl) (Nat.le_of_ble_eq_true rfl)) sh_96 g29 rfl dX11_valueAt_58 ?_
        refine v_iadd (pc := 59) hX dX11_valueAt_59 ?_
        refine v_iconst (pc := 60) hX dX11_valueAt_60 ic_2 ?_
        refine v_icmp_gt (pc := 61) (tgt := 68) hX dX11_valueAt_61 (by decide) (fun h30 => ?_) (fun h30 => ?_)
        · have h := if_t h h30
          refine v_iconst (pc := 68) hX dX11_valueAt_68 ic_0 ?_
          exact v_sub [1, 2, 3, 4, 5, 6, 7, 0] rfl (K6 0 h)
        · have h := if_f h h30
          exact v_sub [1, 2, 3, 4, 5, 6, 7, 0] rfl (K25 () h)
  )
  obtain ⟨y32, h33, h⟩ := b1_e h
  refine v_sub [2, 3, 4, 5, 6, 1, 0] rfl ?_
  refine L31 1000 _ _ h33 ?_
  show VV X 10 ad cs M 141 [(5, .long y32)] []
  refine v_lload (pc := 141) 0 hX dX11_valueAt_141 rfl ?_
  obtain rfl := Option.some.inj h
  exact v_lret (pc := 143) hX hR dX11_valueAt_143
set_option maxHeartbeats 4000000 in
set_option maxRecDepth 100000 in
theorem c_X11_trialValue {ad : Nat → Nat} {cs : List Nat} (hcs : ∀ k, 95 ≤ k → k < 97 → k ∈ cs) (M : Mm) (w1 : Int32) (w2 : Int32) (w3 : Int32) (q : Int64) (h : fX11_trialValue M w1 w2 w3 = some q) : CT ad cs yX11_trialValue cX11_trialValue 4 (some .long) 2 53 [.ref (ad 95), .int w1, .int w2, .int w3] M (some (.long q)) M := by
  refine CT.of RX11 (by decide +kernel) rfl (Nat.le_of_ble_eq_true rfl) (fun X hX hR => ?_)
  unfold fX11_trialValue at h
  show VV X 4 ad cs M 0 [(0, .ref (ad 95)), (1, .int w1), (2, .int w2), (3, .int w3)] []
  refine v_aload_n (pc := 0) 0 hX dX11_trialValue_0 rfl ?_
  refine v_aload_n (pc := 1) 0 hX dX11_trialValue_1 rfl ?_
  refine v_iload_n (pc := 2) 1 hX dX11_trialValue_2 rfl ?_
  refine v_iconst (pc := 3) hX dX11_trialValue_3 ic_0 ?_
  refine v_iload_n (pc := 4) 2 hX dX11_trialValue_4 rfl ?_
  obtain ⟨x2, h1, h⟩ := b1_e h
  refine v_callV (pc := 5) [.int w1, .int 0, .int w2] (some (.int x2)) M hX cv_11_113 (c_X11_trialAt (sub_cs hcs (Nat.le_of_ble_eq_true rfl) (Nat.le_of_ble_eq_true rfl)) M w1 0 w2 x2 h1) (hcs 95 (Nat.le_of_ble_eq_true rfl) (Nat.le_of_ble_eq_true rfl)) sh_95 rfl rfl rfl ⟨Nat.le_of_ble_eq_true rfl, Nat.le_of_ble_eq_true rfl⟩ (Nat.le_of_ble_eq_true rfl) dX11_trialValue_5 ?_
  show VV X 4 ad cs M 8 [(0, .ref (ad 95)), (1, .int w1), (2, .int w2), (3, .int w3)] [.int x2, .ref (ad 95)]
  refine v_aload_n (pc := 8) 0 hX dX11_trialValue_8 rfl ?_
  refine v_iload_n (pc := 9) 1 hX dX11_trialValue_9 rfl ?_
  refine v_iconst (pc := 10) hX dX11_trialValue_10 ic_1 ?_
  refine v_iload_n (pc := 11) 2 hX dX11_trialValue_11 rfl ?_
  obtain ⟨x4, h3, h⟩ := b1_e h
  refine v_callV (pc := 12) [.int w1, .int 1, .int w2] (some (.int x4)) M hX cv_11_113 (c_X11_trialAt (sub_cs hcs (Nat.le_of_ble_eq_true rfl) (Nat.le_of_ble_eq_true rfl)) M w1 1 w2 x4 h3) (hcs 95 (Nat.le_of_ble_eq_true rfl) (Nat.le_of_ble_eq_true rfl)) sh_95 rfl rfl rfl ⟨Nat.le_of_ble_eq_true rfl, Nat.le_of_ble_eq_true rfl⟩ (Nat.le_of_ble_eq_true rfl) dX11_trialValue_12 ?_
  show VV X 4 ad cs M 15 [(0, .ref (ad 95)), (1, .int w1), (2, .int w2), (3, .int w3)] [.int x4, .int x2, .ref (ad 95)]
  refine v_aload_n (pc := 15) 0 hX dX11_trialValue_15 rfl ?_
  refine v_iload_n (pc := 16) 1 hX dX11_trialValue_16 rfl ?_
  refine v_iconst (pc := 17) hX dX11_trialValue_17 ic_2 ?_
  refine v_iload_n (pc := 18) 2 hX dX11_trialValue_18 rfl ?_
  obtain ⟨x6, h5, h⟩ := b1_e h
  refine v_callV (pc := 19) [.int w1, .int 2, .int w2] (some (.int x6)) M hX cv_11_113 (c_X11_trialAt (sub_cs hcs (Nat.le_of_ble_eq_true rfl) (Nat.le_of_ble_eq_true rfl)) M w1 2 w2 x6 h5) (hcs 95 (Nat.le_of_ble_eq_true rfl) (Nat.le_of_ble_eq_true rfl)) sh_95 rfl rfl rfl ⟨Nat.le_of_ble_eq_true rfl, Nat.le_of_ble_eq_true rfl⟩ (Nat.le_of_ble_eq_true rfl) dX11_trialValue_19 ?_
  show VV X 4 ad cs M 22 [(0, .ref (ad 95)), (1, .int w1), (2, .int w2), (3, .int w3)] [.int x6, .int x4, .int x2, .ref (ad 95)]
  refine v_iload_n (pc := 22) 3 hX dX11_trialValue_22 rfl ?_
  obtain ⟨y8, h7, h⟩ := b1_e h
  refine v_callV (pc := 23) [.int x2, .int x4, .int x6, .int w3] (some (.long y8)) M hX cv_11_64 (c_X11_valueAt (sub_cs hcs (Nat.le_of_ble_eq_true rfl) (Nat.le_of_ble_eq_true rfl)) M x2 x4 x6 w3 y8 h7) (hcs 95 (Nat.le_of_ble_eq_true rfl) (Nat.le_of_ble_eq_true rfl)) sh_95 rfl rfl rfl ⟨Nat.le_of_ble_eq_true rfl, Nat.le_of_ble_eq_true rfl⟩ (Nat.le_of_ble_eq_true rfl) dX11_trialValue_23 ?_
  show VV X 4 ad cs M 26 [(0, .ref (ad 95)), (1, .int w1), (2, .int w2), (3, .int w3)] [.long y8]
  obtain rfl := Option.some.inj h
  exact v_lret (pc := 26) hX hR dX11_trialValue_26
set_option maxHeartbeats 4000000 in
set_option maxRecDepth 100000 in
theorem c_X11_isAhead {ad : Nat → Nat} {cs : List Nat} (hcs : ∀ k, 95 ≤ k → k < 97 → k ∈ cs) (M : Mm) (w1 : Int32) (w2 : Int32) (w3 : Int32) (q : Int32) (h : fX11_isAhead M w1 w2 w3 = some q) : CT ad cs yX11_isAhead cX11_isAhead 4 (some .boolean) 3 76 [.ref (ad 95), .int w1, .int w2, .int w3] M (some (.int q)) M := by
  refine CT.of RX11 (by decide +kernel) rfl (Nat.le_of_ble_eq_true rfl) (fun X hX hR => ?_)
  unfold fX11_isAhead at h
  show VV X 4 ad cs M 0 [(0, .ref (ad 95)), (1, .int w1), (2, .int w2), (3, .int w3)] []
  refine v_aload_n (pc := 0) 0 hX dX11_isAhead_0 rfl ?_
  refine v_getR (pc := 1) (t := 96) hX (hcs 95 (Nat.le_of_ble_eq_true rfl) (Nat.le_of_ble_eq_true rfl)) sh_95 fl_11_7 rfl dX11_isAhead_1 ?_
  refine v_iconst (pc := 4) hX dX11_isAhead_4 ic_4 ?_
  refine v_iald (pc := 5) hX (hcs 96 (Nat.le_of_ble_eq_true rfl) (Nat.le_of_ble_eq_true rfl)) sh_96 (ib_4 (by decide)) ix_4 dX11_isAhead_5 ?_
  refine v_iconst (pc := 6) hX dX11_isAhead_6 ic_2 ?_
  refine v_icmp_ne (pc := 7) (tgt := 34) hX dX11_isAhead_7 (by decide) (fun h1 => ?_) (fun h1 => ?_)
  · have h := if_f h h1
    refine v_aload_n (pc := 34) 0 hX dX11_isAhead_34 rfl ?_
    refine v_getR (pc := 35) (t := 96) hX (hcs 95 (Nat.le_of_ble_eq_true rfl) (Nat.le_of_ble_eq_true rfl)) sh_95 fl_11_7 rfl dX11_isAhead_35 ?_
    refine v_iconst (pc := 38) hX dX11_isAhead_38 ic_4 ?_
    refine v_iald (pc := 39) hX (hcs 96 (Nat.le_of_ble_eq_true rfl) (Nat.le_of_ble_eq_true rfl)) sh_96 (ib_4 (by decide)) ix_4 dX11_isAhead_39 ?_
    refine v_iconst (pc := 40) hX dX11_isAhead_40 ic_1 ?_
    refine v_icmp_ne (pc := 41) (tgt := 59) hX dX11_isAhead_41 (by decide) (fun h2 => ?_) (fun h2 => ?_)
    · have h := if_f h h2
      refine v_iconst (pc := 59) hX dX11_isAhead_59 ic_0 ?_
      obtain rfl := Option.some.inj h
      exact v_zret (pc := 60) hX hR (Or.inl rfl) dX11_isAhead_60
    · have h := if_t h h2
      refine v_iload_n (pc := 44) 1 hX dX11_isAhead_44 rfl ?_
      refine v_aload_n (pc := 45) 0 hX dX11_isAhead_45 rfl ?_
      refine v_getR (pc := 46) (t := 96) hX (hcs 95 (Nat.le_of_ble_eq_true rfl) (Nat.le_of_ble_eq_true rfl)) sh_95 fl_11_7 rfl dX11_isAhead_46 ?_
      refine v_bipush (pc := 49) hX dX11_isAhead_49 bp_9 ?_
      refine v_iald (pc := 51) hX (hcs 96 (Nat.le_of_ble_eq_true rfl) (Nat.le_of_ble_eq_true rfl)) sh_96 (ib_9 (by decide)) ix_9 dX11_isAhead_51 ?_
      refine v_icmp_ne (pc := 52) (tgt := 59) hX dX11_isAhead_52 (by decide) (fun h3 => ?_) (fun h3 => ?_)
      · have h := if_f h h3
        refine v_iconst (pc := 59) hX dX11_isAhead_59 ic_0 ?_
        obtain rfl := Option.some.inj h
        exact v_zret (pc := 60) hX hR (Or.inl rfl) dX11_isAhead_60
      · have h := if_t h h3
        refine v_iconst (pc := 55) hX dX11_isAhead_55 ic_1 ?_
        refine v_goto (pc := 56) (tgt := 60) hX dX11_isAhead_56 (by decide) ?_
        obtain rfl := Option.some.inj h
        exact v_zret (pc := 60) hX hR (Or.inr rfl) dX11_isAhead_60
  · have h := if_t h h1
    refine v_aload_n (pc := 10) 0 hX dX11_isAhead_10 rfl ?_
    refine v_iload_n (pc := 11) 1 hX dX11_isAhead_11 rfl ?_
    refine v_iload_n (pc := 12) 3 hX dX11_isAhead_12 rfl ?_
    refine v_iconst (pc := 13) hX dX11_isAhead_13 ic_1 ?_
    obtain ⟨y5, h4, h⟩ := b1_e h
    refine v_callV (pc := 14) [.int w1, .int w3, .int 1] (some (.long y5)) M hX cv_11_117 (c_X11_trialValue (sub_cs hcs (Nat.le_of_ble_eq_true rfl) (Nat.le_of_ble_eq_true rfl)) M w1 w3 1 y5 h4) (hcs 95 (Nat.le_of_ble_eq_true rfl) (Nat.le_of_ble_eq_true rfl)) sh_95 rfl rfl rfl ⟨Nat.le_of_ble_eq_true rfl, Nat.le_of_ble_eq_true rfl⟩ (Nat.le_of_ble_eq_true rfl) dX11_isAhead_14 ?_
    show VV X 4 ad cs M 17 [(0, .ref (ad 95)), (1, .int w1), (2, .int w2), (3, .int w3)] [.long y5]
    refine v_aload_n (pc := 17) 0 hX dX11_isAhead_17 rfl ?_
    refine v_iload_n (pc := 18) 2 hX dX11_isAhead_18 rfl ?_
    refine v_iload_n (pc := 19) 3 hX dX11_isAhead_19 rfl ?_
    refine v_iconst (pc := 20) hX dX11_isAhead_20 ic_1 ?_
    obtain ⟨y7, h6, h⟩ := b1_e h
    refine v_callV (pc := 21) [.int w2, .int w3, .int 1] (some (.long y7)) M hX cv_11_117 (c_X11_trialValue (sub_cs hcs (Nat.le_of_ble_eq_true rfl) (Nat.le_of_ble_eq_true rfl)) M w2 w3 1 y7 h6) (hcs 95 (Nat.le_of_ble_eq_true rfl) (Nat.le_of_ble_eq_true rfl)) sh_95 rfl rfl rfl ⟨Nat.le_of_ble_eq_true rfl, Nat.le_of_ble_eq_true rfl⟩ (Nat.le_of_ble_eq_true rfl) dX11_isAhead_21 ?_
    show VV X 4 ad cs M 24 [(0, .ref (ad 95)), (1, .int w1), (2, .int w2), (3, .int w3)] [.long y7, .long y5]
    refine v_lcmp (pc := 24) hX dX11_isAhead_24 ?_
    refine v_if_ge (pc := 25) (tgt := 32) hX dX11_isAhead_25 (by decide) (fun h8 => ?_) (fun h8 => ?_)
    · have h := if_t h h8
      refine v_iconst (pc := 32) hX dX11_isAhead_32 ic_0 ?_
      obtain rfl := Option.some.inj h
      exact v_zret (pc := 33) hX hR (Or.inl rfl) dX11_isAhead_33
    · have h := if_f h h8
      refine v_iconst (pc := 28) hX dX11_isAhead_28 ic_1 ?_
      refine v_goto (pc := 29) (tgt := 33) hX dX11_isAhead_29 (by decide) ?_
      obtain rfl := Option.some.inj h
      exact v_zret (pc := 33) hX hR (Or.inr rfl) dX11_isAhead_33
set_option maxHeartbeats 4000000 in
set_option maxRecDepth 100000 in
theorem c_X11_isTrialAllowed {ad : Nat → Nat} {cs : List Nat} (hcs : ∀ k, 95 ≤ k → k < 97 → k ∈ cs) (M : Mm) (w1 : Int32) (w2 : Int32) (q : Int32) (h : fX11_isTrialAllowed M w1 w2 = some q) : CT ad cs yX11_isTrialAllowed cX11_isTrialAllowed 3 (some .boolean) 2 45 [.ref (ad 95), .int w1, .int w2] M (some (.int q)) M := by
  refine CT.of RX11 (by decide +kernel) rfl (Nat.le_of_ble_eq_true rfl) (fun X hX hR => ?_)
  unfold fX11_isTrialAllowed at h
  show VV X 3 ad cs M 0 [(0, .ref (ad 95)), (1, .int w1), (2, .int w2)] []
  refine v_aload_n (pc := 0) 0 hX dX11_isTrialAllowed_0 rfl ?_
  refine v_aload_n (pc := 1) 0 hX dX11_isTrialAllowed_1 rfl ?_
  refine v_iload_n (pc := 2) 1 hX dX11_isTrialAllowed_2 rfl ?_
  refine v_iconst (pc := 3) hX dX11_isTrialAllowed_3 ic_0 ?_
  refine v_iload_n (pc := 4) 2 hX dX11_isTrialAllowed_4 rfl ?_
  obtain ⟨x2, h1, h⟩ := b1_e h
  refine v_callV (pc := 5) [.int w1, .int 0, .int w2] (some (.int x2)) M hX cv_11_113 (c_X11_trialAt (sub_cs hcs (Nat.le_of_ble_eq_true rfl) (Nat.le_of_ble_eq_true rfl)) M w1 0 w2 x2 h1) (hcs 95 (Nat.le_of_ble_eq_true rfl) (Nat.le_of_ble_eq_true rfl)) sh_95 rfl rfl rfl ⟨Nat.le_of_ble_eq_true rfl, Nat.le_of_ble_eq_true rfl⟩ (Nat.le_of_ble_eq_true rfl) dX11_isTrialAllowed_5 ?_
  show VV X 3 ad cs M 8 [(0, .ref (ad 95)), (1, .int w1), (2, .int w2)] [.int x2, .ref (ad 95)]
  refine v_aload_n (pc := 8) 0 hX dX11_isTrialAllowed_8 rfl ?_
  refine v_iload_n (pc := 9) 1 hX dX11_isTrialAllowed_9 rfl ?_
  refine v_iconst (pc := 10) hX dX11_isTrialAllowed_10 ic_1 ?_
  refine v_iload_n (pc := 11) 2 hX dX11_isTrialAllowed_11 rfl ?_
  obtain ⟨x4, h3, h⟩ := b1_e h
  refine v_callV (pc := 12) [.int w1, .int 1, .int w2] (some (.int x4)) M hX cv_11_113 (c_X11_trialAt (sub_cs hcs (Nat.le_of_ble_eq_true rfl) (Nat.le_of_ble_eq_true rfl)) M w1 1 w2 x4 h3) (hcs 95 (Nat.le_of_ble_eq_true rfl) (Nat.le_of_ble_eq_true rfl)) sh_95 rfl rfl rfl ⟨Nat.le_of_ble_eq_true rfl, Nat.le_of_ble_eq_true rfl⟩ (Nat.le_of_ble_eq_true rfl) dX11_isTrialAllowed_12 ?_
  show VV X 3 ad cs M 15 [(0, .ref (ad 95)), (1, .int w1), (2, .int w2)] [.int x4, .int x2, .ref (ad 95)]
  refine v_aload_n (pc := 15) 0 hX dX11_isTrialAllowed_15 rfl ?_
  refine v_iload_n (pc := 16) 1 hX dX11_isTrialAllowed_16 rfl ?_
  refine v_iconst (pc := 17) hX dX11_isTrialAllowed_17 ic_2 ?_
  refine v_iload_n (pc := 18) 2 hX dX11_isTrialAllowed_18 rfl ?_
  obtain ⟨x6, h5, h⟩ := b1_e h
  refine v_callV (pc := 19) [.int w1, .int 2, .int w2] (some (.int x6)) M hX cv_11_113 (c_X11_trialAt (sub_cs hcs (Nat.le_of_ble_eq_true rfl) (Nat.le_of_ble_eq_true rfl)) M w1 2 w2 x6 h5) (hcs 95 (Nat.le_of_ble_eq_true rfl) (Nat.le_of_ble_eq_true rfl)) sh_95 rfl rfl rfl ⟨Nat.le_of_ble_eq_true rfl, Nat.le_of_ble_eq_true rfl⟩ (Nat.le_of_ble_eq_true rfl) dX11_isTrialAllowed_19 ?_
  show VV X 3 ad cs M 22 [(0, .ref (ad 95)), (1, .int w1), (2, .int w2)] [.int x6, .int x4, .int x2, .ref (ad 95)]
  obtain ⟨x8, h7, h⟩ := b1_e h
  refine v_callV (pc := 22) [.int x2, .int x4, .int x6] (some (.int x8)) M hX cv_11_84 (c_X11_isAllowed (sub_cs hcs (Nat.le_of_ble_eq_true rfl) (Nat.le_of_ble_eq_true rfl)) M x2 x4 x6 x8 h7) (hcs 95 (Nat.le_of_ble_eq_true rfl) (Nat.le_of_ble_eq_true rfl)) sh_95 rfl rfl rfl ⟨Nat.le_of_ble_eq_true rfl, Nat.le_of_ble_eq_true rfl⟩ (Nat.le_of_ble_eq_true rfl) dX11_isTrialAllowed_22 ?_
  show VV X 3 ad cs M 25 [(0, .ref (ad 95)), (1, .int w1), (2, .int w2)] [.int x8]
  obtain ⟨g9, h⟩ := gd_e h
  obtain rfl := Option.some.inj h
  exact v_zret (pc := 25) hX hR g9 dX11_isTrialAllowed_25
set_option maxHeartbeats 4000000 in
set_option maxRecDepth 100000 in
theorem c_X11_layRow {ad : Nat → Nat} {cs : List Nat} (hcs : ∀ k, 95 ≤ k → k < 101 → k ∈ cs) (M : Mm) (q : Mm) (h : fX11_layRow M = some q) : CT ad cs yX11_layRow cX11_layRow 7 none 4 99 [.ref (ad 95)] M none q := by
  refine CT.of RX11 (by decide +kernel) rfl (Nat.le_of_ble_eq_true rfl) (fun X hX hR => ?_)
  unfold fX11_layRow at h
  show VV X 7 ad cs M 0 [(0, .ref (ad 95))] []
  refine v_iconst (pc := 0) hX dX11_layRow_0 ic_1 ?_
  refine v_aload_n (pc := 1) 0 hX dX11_layRow_1 rfl ?_
  refine v_getR (pc := 2) (t := 96) hX (hcs 95 (Nat.le_of_ble_eq_true rfl) (Nat.le_of_ble_eq_true rfl)) sh_95 fl_11_7 rfl dX11_layRow_2 ?_
  refine v_iconst (pc := 5) hX dX11_layRow_5 ic_3 ?_
  refine v_iald (pc := 6) hX (hcs 96 (Nat.le_of_ble_eq_true rfl) (Nat.le_of_ble_eq_true rfl)) sh_96 (ib_3 (by decide)) ix_3 dX11_layRow_6 ?_
  refine v_ishl (pc := 7) hX dX11_layRow_7 ?_
  obtain ⟨x1, ex1, h⟩ := bd_e h
  refine v_top ex1 ?_
  refine v_istore_n (pc := 8) [(1, .int x1), (0, .ref (ad 95))] hX dX11_layRow_8 (by decide) rfl ?_
  refine v_iconst (pc := 9) hX dX11_layRow_9 ic_0 ?_
  refine v_istore_n (pc := 10) [(2, .int 0), (1, .int x1), (0, .ref (ad 95))] hX dX11_layRow_10 (by decide) rfl ?_
  refine v_aload_n (pc := 11) 2 hX dX11_layRow_11 rfl ?_
  refine v_iconst (pc := 12) hX dX11_layRow_12 ic_0 ?_
  obtain ⟨M2, eM2, h⟩ := bd_e h
  refine v_putI (pc := 13) hX (hcs 95 (Nat.le_of_ble_eq_true rfl) (Nat.le_of_ble_eq_true rfl)) sh_95 pl_11_121 rfl dX11_layRow_13 eM2 ?_
  refine v_iconst (pc := 16) hX dX11_layRow_16 ic_0 ?_
  refine v_istore_n (pc := 17) [(3, .int 0), (2, .int 0), (1, .int x1), (0, .ref (ad 95))] hX dX11_layRow_17 (by decide) rfl ?_
  have L45 := v_itr (fX11_layRow_L18 x1) (fun z => VV X 7 ad cs z.2.2 18 [(0, .ref (ad 95)), (1, .int x1), (2, .int z.1), (3, .int z.2.1)] []) (fun z => VV X 7 ad cs z 147 [] []) (by
    rintro ⟨x3, x4, M5⟩ q h hK
    unfold fX11_layRow_L18 at h
    have h := u3_b h
    show VV X 7 ad cs M5 18 [(0, .ref (ad 95)), (1, .int x1), (2, .int x3), (3, .int x4)] []
    refine v_iload_n (pc := 18) 3 hX dX11_layRow_18 rfl ?_
    refine v_aload_n (pc := 19) 0 hX dX11_layRow_19 rfl ?_
    refine v_getR (pc := 20) (t := 96) hX (hcs 95 (Nat.le_of_ble_eq_true rfl) (Nat.le_of_ble_eq_true rfl)) sh_95 fl_11_7 rfl dX11_layRow_20 ?_
    refine v_iconst (pc := 23) hX dX11_layRow_23 ic_2 ?_
    refine v_iald (pc := 24) hX (hcs 96 (Nat.le_of_ble_eq_true rfl) (Nat.le_of_ble_eq_true rfl)) sh_96 (ib_2 (by decide)) ix_2 dX11_layRow_24 ?_
    refine v_icmp_ge (pc := 25) (tgt := 147) hX dX11_layRow_25 (by decide) (fun h6 => ?_) (fun h6 => ?_)
    · have h := if_t h h6
      obtain rfl := Option.some.inj h
      exact v_sub [] rfl hK
    · have h := if_f h h6
      refine v_iconst (pc := 28) hX dX11_layRow_28 ic_m1 ?_
      refine v_istore (pc := 29) [(4, .int (-1)), (0, .ref (ad 95)), (1, .int x1), (2, .int x3), (3, .int x4)] hX dX11_layRow_29 (by decide) rfl ?_
      refine v_iconst (pc := 31) hX dX11_layRow_31 ic_0 ?_
      refine v_istore (pc := 32) [(5, .int 0), (4, .int (-1)), (0, .ref (ad 95)), (1, .int x1), (2, .int x3), (3, .int x4)] hX dX11_layRow_32 (by decide) rfl ?_
      have L32 := v_itr (fX11_layRow_L34 M5 x1 x3) (fun z => VV X 7 ad cs M5 34 [(0, .ref (ad 95)), (1, .int x1), (2, .int x3), (3, .int x4), (4, .int z.1), (5, .int z.2)] []) (fun z => VV X 7 ad cs M5 108 [(0, .ref (ad 95)), (1, .int x1), (2, .int x3), (3, .int x4), (4, .int z)] []) (by
        rintro ⟨x7, x8⟩ q h hK
        unfold fX11_layRow_L34 at h
        have h := u2_b h
        show VV X 7 ad cs M5 34 [(0, .ref (ad 95)), (1, .int x1), (2, .int x3), (3, .int x4), (4, .int x7), (5, .int x8)] []
        refine v_iload (pc := 34) 5 hX dX11_layRow_34 rfl ?_
        refine v_aload_n (pc := 36) 0 hX dX11_layRow_36 rfl ?_
        refine v_getR (pc := 37) (t := 96) hX (hcs 95 (Nat.le_of_ble_eq_true rfl) (Nat.le_of_ble_eq_true rfl)) sh_95 fl_11_7 rfl dX11_layRow_37 ?_
        refine v_iconst (pc := 40) hX dX11_layRow_40 ic_2 ?_
        refine v_iald (pc := 41) hX (hcs 96 (Nat.le_of_ble_eq_true rfl) (Nat.le_of_ble_eq_true rfl)) sh_96 (ib_2 (by decide)) ix_2 dX11_layRow_41 ?_
        refine v_icmp_ge (pc := 42) (tgt := 108) hX dX11_layRow_42 (by decide) (fun h9 => ?_) (fun h9 => ?_)
        · have h := if_t h h9
          obtain rfl := Option.some.inj h
          exact v_sub [0, 1, 2, 3, 4] rfl hK
        · have h := if_f h h9
          refine v_iload_n (pc := 45) 2 hX dX11_layRow_45 rfl ?_
          refine v_iload (pc := 46) 5 hX dX11_layRow_46 rfl ?_
          refine v_ishr (pc := 48) hX dX11_layRow_48 ?_
          refine v_iconst (pc := 49) hX dX11_layRow_49 ic_1 ?_
          refine v_iand (pc := 50) hX dX11_layRow_50 ?_
          obtain ⟨k10, ek10, h⟩ := bd_e h
          have K11 : ∀ (x12 : Int32), k10 x12 = some q → VV X 7 ad cs M5 69 [(0, .ref (ad 95)), (1, .int x1), (2, .int x3), (3, .int x4), (4, .int x7), (5, .int x8)] [.int x12] := by
            intro x12 h
            subst ek10
            refine v_istore (pc := 69) [(6, .int x12), (0, .ref (ad 95)), (1, .int x1), (2, .int x3), (3, .int x4), (4, .int x7), (5, .int x8)] hX dX11_layRow_69 (by decide) rfl ?_
            refine v_iload (pc := 71) 0 hX dX11_layRow_71 rfl ?_
            obtain ⟨k13, ek13, h⟩ := bd_e h
            have K14 : ∀ (x15 : Int32), k13 x15 = some q → VV X 7 ad cs M5 100 [(0, .ref (ad 95)), (1, .int x1), (2, .int x3), (3, .int x4), (5, .int x8)] [.int x15] := by
              intro x15 h
              subst ek13
              refine v_istore (pc := 100) [(4, .int x15), (0, .ref (ad 95)), (1, .int x1), (2, .int x3), (3, .int x4), (5, .int x8)] hX dX11_layRow_100 (by decide) rfl ?_
              obtain ⟨x16, ex16, h⟩ := bd_e h
              refine v_iinc (v := x16) (pc := 102) 5 [(5, .int x16), (4, .int x15), (0, .ref (ad 95)), (1, .int x1), (2, .int x3), (3, .int x4)] hX dX11_layRow_102 rfl (ex16.trans (by rw [ic_1])) (by decide) rfl ?_
              refine v_goto (pc := 105) (tgt := 34) hX dX11_layRow_105 (by decide) ?_
              obtain rfl := Option.some.inj h
              exact v_sub [2, 3, 4, 5, 1, 0] rfl hK
            obtain ⟨k17, ek17, h⟩ := bd_e h
            have K18 : ∀ (_ : Unit), k17 () = some q → VV X 7 ad cs M5 98 [(0, .ref (ad 95)), (1, .int x1), (2, .int x3), (3, .int x4), (4, .int x7), (5, .int x8)] [] := by
              intro _ h
              subst ek17
              refine v_iload (pc := 98) 4 hX dX11_layRow_98 rfl ?_
              exact v_sub [0, 1, 2, 3, 5] rfl (K14 x7 h)
            refine v_if_eq (pc := 73) (tgt := 98) hX dX11_layRow_73 (by decide) (fun h19 => ?_) (fun h19 => ?_)
            · have h := if_t h h19
              exact v_sub [1, 2, 3, 4, 5, 6] rfl (K18 () h)
            · have h := if_f h h19
              refine v_iload (pc := 76) 5 hX dX11_layRow_76 rfl ?_
              obtain ⟨k20, ek20, h⟩ := bd_e h
              have K21 : ∀ (_ : Unit), k20 () = some q → VV X 7 ad cs M5 93 [(0, .ref (ad 95)), (1, .int x1), (2, .int x3), (3, .int x4), (5, .int x8)] [] := by
                intro _ h
                subst ek20
                refine v_iload (pc := 93) 4 hX dX11_layRow_93 rfl ?_
                refine v_goto (pc := 95) (tgt := 100) hX dX11_layRow_95 (by decide) ?_
                exact v_sub [0, 1, 2, 3, 4] rfl (K14 x8 h)
              refine v_if_lt (pc := 78) (tgt := 93) hX dX11_layRow_78 (by decide) (fun h22 => ?_) (fun h22 => ?_)
              · have h := if_t h h22
                exact v_sub [1, 2, 3, 4, 6] rfl (K21 () h)
              · have h := if_f h h22
                refine v_aload_n (pc := 81) 1 hX dX11_layRow_81 rfl ?_
                refine v_iload (pc := 82) 6 hX dX11_layRow_82 rfl ?_
                refine v_iload (pc := 84) 5 hX dX11_layRow_84 rfl ?_
                refine v_iload_n (pc := 86) 2 hX dX11_layRow_86 rfl ?_
                obtain ⟨x24, h23, h⟩ := b1_e h
                refine v_callV (pc := 87) [.int x8, .int x7, .int x1] (some (.int x24)) M5 hX cv_11_128 (c_X11_isAhead (sub_cs hcs (Nat.le_of_ble_eq_true rfl) (Nat.le_of_ble_eq_true rfl)) M5 x8 x7 x1 x24 h23) (hcs 95 (Nat.le_of_ble_eq_true rfl) (Nat.le_of_ble_eq_true rfl)) sh_95 rfl rfl rfl ⟨Nat.le_of_ble_eq_true rfl, Nat.le_of_ble_eq_true rfl⟩ (Nat.le_of_ble_eq_true rfl) dX11_layRow_87 ?_
                show VV X 7 ad cs M5 90 [(6, .int x12), (0, .ref (ad 95)), (1, .int x1), (2, .int x3), (3, .int x4), (4, .int x7), (5, .int x8)] [.int x24]
                refine v_if_eq (pc := 90) (tgt := 98) hX dX11_layRow_90 (by decide) (fun h25 => ?_) (fun h25 => ?_)
                · have h := if_t h h25
                  exact v_sub [1, 2, 3, 4, 5, 6] rfl (K18 () h)
                · have h := if_f h h25
                  exact v_sub [1, 2, 3, 4, 6] rfl (K21 () h)
          obtain ⟨k26, ek26, h⟩ := bd_e h
          have K27 : ∀ (_ : Unit), k26 () = some q → VV X 7 ad cs M5 68 [(0, .ref (ad 95)), (1, .int x1), (2, .int x3), (3, .int x4), (4, .int x7), (5, .int x8)] [] := by
            intro _ h
            subst ek26
            refine v_iconst (pc := 68) hX dX11_layRow_68 ic_0 ?_
            exact v_sub [0, 1, 2, 3, 4, 5] rfl (K11 0 h)
          refine v_if_ne (pc := 51) (tgt := 68) hX dX11_layRow_51 (by decide) (fun h28 => ?_) (fun h28 => ?_)
          · have h := if_f h h28
            exact v_sub [0, 1, 2, 3, 4, 5] rfl (K27 () h)
          · have h := if_t h h28
            refine v_aload_n (pc := 54) 0 hX dX11_layRow_54 rfl ?_
            refine v_iload (pc := 55) 5 hX dX11_layRow_55 rfl ?_
            refine v_iload_n (pc := 57) 1 hX dX11_layRow_57 rfl ?_
            obtain ⟨x30, h29, h⟩ := b1_e h
            refine v_callV (pc := 58) [.int x8, .int x1] (some (.int x30)) M5 hX cv_11_124 (c_X11_isTrialAllowed (sub_cs hcs (Nat.le_of_ble_eq_true rfl) (Nat.le_of_ble_eq_true rfl)) M5 x8 x1 x30 h29) (hcs 95 (Nat.le_of_ble_eq_true rfl) (Nat.le_of_ble_eq_true rfl)) sh_95 rfl rfl rfl ⟨Nat.le_of_ble_eq_true rfl, Nat.le_of_ble_eq_true rfl⟩ (Nat.le_of_ble_eq_true rfl) dX11_layRow_58 ?_
            show VV X 7 ad cs M5 61 [(0, .ref (ad 95)), (1, .int x1), (2, .int x3), (3, .int x4), (4, .int x7), (5, .int x8)] [.int x30]
            refine v_if_eq (pc := 61) (tgt := 68) hX dX11_layRow_61 (by decide) (fun h31 => ?_) (fun h31 => ?_)
            · have h := if_t h h31
              exact v_sub [0, 1, 2, 3, 4, 5] rfl (K27 () h)
            · have h := if_f h h31
              refine v_iconst (pc := 64) hX dX11_layRow_64 ic_1 ?_
              refine v_goto (pc := 65) (tgt := 69) hX dX11_layRow_65 (by decide) ?_
              exact v_sub [0, 1, 2, 3, 4, 5] rfl (K11 1 h)
      )
      obtain ⟨x33, h44, h⟩ := b1_e h
      refine v_sub [2, 3, 4, 5, 1, 0] rfl ?_
      refine L32 1000 _ _ h44 ?_
      show VV X 7 ad cs M5 108 [(0, .ref (ad 95)), (1, .int x1), (2, .int x3), (3, .int x4), (4, .int x33)] []
      refine v_iload (pc := 108) 4 hX dX11_layRow_108 rfl ?_
      obtain ⟨k34, ek34, h⟩ := bd_e h
      have K35 : ∀ (x36 : Int32) (M37 : Mm), k34 x36 M37 = some q → VV X 7 ad cs M37 141 [(0, .ref (ad 95)), (1, .int x1), (2, .int x36), (3, .int x4)] [] := by
        intro x36 M37 h
        subst ek34
        obtain ⟨x38, ex38, h⟩ := bd_e h
        refine v_iinc (v := x38) (pc := 141) 3 [(3, .int x38), (0, .ref (ad 95)), (1, .int x1), (2, .int x36)] hX dX11_layRow_141 rfl (ex38.trans (by rw [ic_1])) (by decide) rfl ?_
        refine v_goto (pc := 144) (tgt := 18) hX dX11_layRow_144 (by decide) ?_
        obtain rfl := Option.some.inj h
        exact v_sub [1, 2, 3, 0] rfl hK
      refine v_if_lt (pc := 110) (tgt := 141) hX dX11_layRow_110 (by decide) (fun h39 => ?_) (fun h39 => ?_)
      · have h := if_t h h39
        exact v_sub [0, 1, 2, 3] rfl (K35 x3 M5 h)
      · have h := if_f h h39
        refine v_iload_n (pc := 113) 2 hX dX11_layRow_113 rfl ?_
        refine v_iconst (pc := 114) hX dX11_layRow_114 ic_1 ?_
        refine v_iload (pc := 115) 4 hX dX11_layRow_115 rfl ?_
        refine v_ishl (pc := 117) hX dX11_layRow_117 ?_
        refine v_ior (pc := 118) hX dX11_layRow_118 ?_
        obtain ⟨x40, ex40, h⟩ := bd_e h
        refine v_top ex40 ?_
        refine v_istore_n (pc := 119) [(2, .int x40), (0, .ref (ad 95)), (1, .int x1), (3, .int x4), (4, .int x33)] hX dX11_layRow_119 (by decide) rfl ?_
        refine v_aload_n (pc := 120) 1 hX dX11_layRow_120 rfl ?_
        refine v_getR (pc := 121) (t := 100) hX (hcs 95 (Nat.le_of_ble_eq_true rfl) (Nat.le_of_ble_eq_true rfl)) sh_95 fl_11_23 rfl dX11_layRow_121 ?_
        refine v_aload_n (pc := 124) 1 hX dX11_layRow_124 rfl ?_
        refine v_getI (pc := 125) hX (hcs 95 (Nat.le_of_ble_eq_true rfl) (Nat.le_of_ble_eq_true rfl)) sh_95 fl_11_121 rfl dX11_layRow_125 ?_
        refine v_iload (pc := 128) 4 hX dX11_layRow_128 rfl ?_
        obtain ⟨g41, h⟩ := gd_e h
        obtain ⟨M42, eM42, h⟩ := bd_e h
        refine v_iast (pc := 130) hX (hcs 100 (Nat.le_of_ble_eq_true rfl) (Nat.le_of_ble_eq_true rfl)) sh_100 g41 rfl dX11_layRow_130 eM42 ?_
        refine v_aload_n (pc := 131) 1 hX dX11_layRow_131 rfl ?_
        refine v_dup (pc := 132) hX dX11_layRow_132 rfl ?_
        refine v_getI (pc := 133) hX (hcs 95 (Nat.le_of_ble_eq_true rfl) (Nat.le_of_ble_eq_true rfl)) sh_95 fl_11_121 rfl dX11_layRow_133 ?_
        refine v_iconst (pc := 136) hX dX11_layRow_136 ic_1 ?_
        refine v_iadd (pc := 137) hX dX11_layRow_137 ?_
        obtain ⟨M43, eM43, h⟩ := bd_e h
        refine v_putI (pc := 138) hX (hcs 95 (Nat.le_of_ble_eq_true rfl) (Nat.le_of_ble_eq_true rfl)) sh_95 pl_11_121 rfl dX11_layRow_138 eM43 ?_
        exact v_sub [1, 2, 0, 3] rfl (K35 x40 M43 h)
  )
  obtain ⟨M46, h47, h⟩ := b1_e h
  refine v_sub [3, 2, 1, 0] rfl ?_
  refine L45 1000 _ _ h47 ?_
  show VV X 7 ad cs M46 147 [] []
  obtain rfl := Option.some.inj h
  exact v_vret (pc := 147) hX hR dX11_layRow_147
set_option maxHeartbeats 4000000 in
set_option maxRecDepth 100000 in
theorem c_X11_valueHere {ad : Nat → Nat} {cs : List Nat} (hcs : ∀ k, 95 ≤ k → k < 97 → k ∈ cs) (M : Mm) (q : Int64) (h : fX11_valueHere M = some q) : CT ad cs yX11_valueHere cX11_valueHere 1 (some .long) 2 53 [.ref (ad 95)] M (some (.long q)) M := by
  refine CT.of RX11 (by decide +kernel) rfl (Nat.le_of_ble_eq_true rfl) (fun X hX hR => ?_)
  unfold fX11_valueHere at h
  show VV X 1 ad cs M 0 [(0, .ref (ad 95))] []
  refine v_aload_n (pc := 0) 0 hX dX11_valueHere_0 rfl ?_
  refine v_aload_n (pc := 1) 0 hX dX11_valueHere_1 rfl ?_
  refine v_getR (pc := 2) (t := 96) hX (hcs 95 (Nat.le_of_ble_eq_true rfl) (Nat.le_of_ble_eq_true rfl)) sh_95 fl_11_7 rfl dX11_valueHere_2 ?_
  refine v_bipush (pc := 5) hX dX11_valueHere_5 bp_18 ?_
  refine v_iald (pc := 7) hX (hcs 96 (Nat.le_of_ble_eq_true rfl) (Nat.le_of_ble_eq_true rfl)) sh_96 (ib_18 (by decide)) ix_18 dX11_valueHere_7 ?_
  refine v_aload_n (pc := 8) 0 hX dX11_valueHere_8 rfl ?_
  refine v_getR (pc := 9) (t := 96) hX (hcs 95 (Nat.le_of_ble_eq_true rfl) (Nat.le_of_ble_eq_true rfl)) sh_95 fl_11_7 rfl dX11_valueHere_9 ?_
  refine v_bipush (pc := 12) hX dX11_valueHere_12 bp_19 ?_
  refine v_iald (pc := 14) hX (hcs 96 (Nat.le_of_ble_eq_true rfl) (Nat.le_of_ble_eq_true rfl)) sh_96 (ib_19 (by decide)) ix_19 dX11_valueHere_14 ?_
  refine v_aload_n (pc := 15) 0 hX dX11_valueHere_15 rfl ?_
  refine v_getR (pc := 16) (t := 96) hX (hcs 95 (Nat.le_of_ble_eq_true rfl) (Nat.le_of_ble_eq_true rfl)) sh_95 fl_11_7 rfl dX11_valueHere_16 ?_
  refine v_bipush (pc := 19) hX dX11_valueHere_19 bp_20 ?_
  refine v_iald (pc := 21) hX (hcs 96 (Nat.le_of_ble_eq_true rfl) (Nat.le_of_ble_eq_true rfl)) sh_96 (ib_20 (by decide)) ix_20 dX11_valueHere_21 ?_
  refine v_iconst (pc := 22) hX dX11_valueHere_22 ic_0 ?_
  obtain ⟨y2, h1, h⟩ := b1_e h
  refine v_callV (pc := 23) [.int (M.1 96 18), .int (M.1 96 19), .int (M.1 96 20), .int 0] (some (.long y2)) M hX cv_11_64 (c_X11_valueAt (sub_cs hcs (Nat.le_of_ble_eq_true rfl) (Nat.le_of_ble_eq_true rfl)) M (M.1 96 18) (M.1 96 19) (M.1 96 20) 0 y2 h1) (hcs 95 (Nat.le_of_ble_eq_true rfl) (Nat.le_of_ble_eq_true rfl)) sh_95 rfl rfl rfl ⟨Nat.le_of_ble_eq_true rfl, Nat.le_of_ble_eq_true rfl⟩ (Nat.le_of_ble_eq_true rfl) dX11_valueHere_23 ?_
  show VV X 1 ad cs M 26 [(0, .ref (ad 95))] [.long y2]
  obtain rfl := Option.some.inj h
  exact v_lret (pc := 26) hX hR dX11_valueHere_26
set_option maxHeartbeats 4000000 in
set_option maxRecDepth 100000 in
theorem c_X11_leave {ad : Nat → Nat} {cs : List Nat} (hcs : ∀ k, 95 ≤ k → k < 97 → k ∈ cs) (M : Mm) (q : Mm) (h : fX11_leave M = some q) : CT ad cs yX11_leave cX11_leave 2 none 0 0 [.ref (ad 95)] M none q := by
  refine CT.of RX11 (by decide +kernel) rfl (Nat.le_of_ble_eq_true rfl) (fun X hX hR => ?_)
  unfold fX11_leave at h
  show VV X 2 ad cs M 0 [(0, .ref (ad 95))] []
  refine v_bipush (pc := 0) hX dX11_leave_0 bp_17 ?_
  refine v_istore_n (pc := 2) [(1, .int 17), (0, .ref (ad 95))] hX dX11_leave_2 (by decide) rfl ?_
  have L8 := v_itr (fX11_leave_L3) (fun z => VV X 2 ad cs z.2 3 [(0, .ref (ad 95)), (1, .int z.1)] []) (fun z => VV X 2 ad cs z 34 [(0, .ref (ad 95))] []) (by
    rintro ⟨x1, M2⟩ q h hK
    unfold fX11_leave_L3 at h
    have h := u2_b h
    show VV X 2 ad cs M2 3 [(0, .ref (ad 95)), (1, .int x1)] []
    refine v_iload_n (pc := 3) 1 hX dX11_leave_3 rfl ?_
    refine v_iconst (pc := 4) hX dX11_leave_4 ic_3 ?_
    refine v_icmp_lt (pc := 5) (tgt := 34) hX dX11_leave_5 (by decide) (fun h3 => ?_) (fun h3 => ?_)
    · have h := if_t h h3
      obtain rfl := Option.some.inj h
      exact v_sub [0] rfl hK
    · have h := if_f h h3
      refine v_aload_n (pc := 8) 0 hX dX11_leave_8 rfl ?_
      refine v_getR (pc := 9) (t := 96) hX (hcs 95 (Nat.le_of_ble_eq_true rfl) (Nat.le_of_ble_eq_true rfl)) sh_95 fl_11_7 rfl dX11_leave_9 ?_
      refine v_bipush (pc := 12) hX dX11_leave_12 bp_93 ?_
      refine v_iload_n (pc := 14) 1 hX dX11_leave_14 rfl ?_
      refine v_iadd (pc := 15) hX dX11_leave_15 ?_
      refine v_aload_n (pc := 16) 0 hX dX11_leave_16 rfl ?_
      refine v_getR (pc := 17) (t := 96) hX (hcs 95 (Nat.le_of_ble_eq_true rfl) (Nat.le_of_ble_eq_true rfl)) sh_95 fl_11_7 rfl dX11_leave_17 ?_
      refine v_bipush (pc := 20) hX dX11_leave_20 bp_93 ?_
      refine v_iload_n (pc := 22) 1 hX dX11_leave_22 rfl ?_
      refine v_iadd (pc := 23) hX dX11_leave_23 ?_
      refine v_iconst (pc := 24) hX dX11_leave_24 ic_3 ?_
      refine v_isub (pc := 25) hX dX11_leave_25 ?_
      obtain ⟨g4, h⟩ := gd_e h
      refine v_iald (pc := 26) hX (hcs 96 (Nat.le_of_ble_eq_true rfl) (Nat.le_of_ble_eq_true rfl)) sh_96 g4 rfl dX11_leave_26 ?_
      obtain ⟨g5, h⟩ := gd_e h
      obtain ⟨M6, eM6, h⟩ := bd_e h
      refine v_iast (pc := 27) hX (hcs 96 (Nat.le_of_ble_eq_true rfl) (Nat.le_of_ble_eq_true rfl)) sh_96 g5 rfl dX11_leave_27 eM6 ?_
      obtain ⟨x7, ex7, h⟩ := bd_e h
      refine v_iinc (v := x7) (pc := 28) 1 [(1, .int x7), (0, .ref (ad 95))] hX dX11_leave_28 rfl (ex7.trans (by rw [ic_m1])) (by decide) rfl ?_
      refine v_goto (pc := 31) (tgt := 3) hX dX11_leave_31 (by decide) ?_
      obtain rfl := Option.some.inj h
      exact v_sub [1, 0] rfl hK
  )
  obtain ⟨M9, h23, h⟩ := b1_e h
  refine v_sub [1, 0] rfl ?_
  refine L8 1000 _ _ h23 ?_
  show VV X 2 ad cs M9 34 [(0, .ref (ad 95))] []
  refine v_iconst (pc := 34) hX dX11_leave_34 ic_0 ?_
  refine v_istore_n (pc := 35) [(1, .int 0), (0, .ref (ad 95))] hX dX11_leave_35 (by decide) rfl ?_
  have L17 := v_itr (fX11_leave_L36) (fun z => VV X 2 ad cs z.2 36 [(0, .ref (ad 95)), (1, .int z.1)] []) (fun z => VV X 2 ad cs z 65 [(0, .ref (ad 95))] []) (by
    rintro ⟨x10, M11⟩ q h hK
    unfold fX11_leave_L36 at h
    have h := u2_b h
    show VV X 2 ad cs M11 36 [(0, .ref (ad 95)), (1, .int x10)] []
    refine v_iload_n (pc := 36) 1 hX dX11_leave_36 rfl ?_
    refine v_iconst (pc := 37) hX dX11_leave_37 ic_3 ?_
    refine v_icmp_ge (pc := 38) (tgt := 65) hX dX11_leave_38 (by decide) (fun h12 => ?_) (fun h12 => ?_)
    · have h := if_t h h12
      obtain rfl := Option.some.inj h
      exact v_sub [0] rfl hK
    · have h := if_f h h12
      refine v_aload_n (pc := 41) 0 hX dX11_leave_41 rfl ?_
      refine v_getR (pc := 42) (t := 96) hX (hcs 95 (Nat.le_of_ble_eq_true rfl) (Nat.le_of_ble_eq_true rfl)) sh_95 fl_11_7 rfl dX11_leave_42 ?_
      refine v_bipush (pc := 45) hX dX11_leave_45 bp_93 ?_
      refine v_iload_n (pc := 47) 1 hX dX11_leave_47 rfl ?_
      refine v_iadd (pc := 48) hX dX11_leave_48 ?_
      refine v_aload_n (pc := 49) 0 hX dX11_leave_49 rfl ?_
      refine v_getR (pc := 50) (t := 96) hX (hcs 95 (Nat.le_of_ble_eq_true rfl) (Nat.le_of_ble_eq_true rfl)) sh_95 fl_11_7 rfl dX11_leave_50 ?_
      refine v_bipush (pc := 53) hX dX11_leave_53 bp_18 ?_
      refine v_iload_n (pc := 55) 1 hX dX11_leave_55 rfl ?_
      refine v_iadd (pc := 56) hX dX11_leave_56 ?_
      obtain ⟨g13, h⟩ := gd_e h
      refine v_iald (pc := 57) hX (hcs 96 (Nat.le_of_ble_eq_true rfl) (Nat.le_of_ble_eq_true rfl)) sh_96 g13 rfl dX11_leave_57 ?_
      obtain ⟨g14, h⟩ := gd_e h
      obtain ⟨M15, eM15, h⟩ := bd_e h
      refine v_iast (pc := 58) hX (hcs 96 (Nat.le_of_ble_eq_true rfl) (Nat.le_of_ble_eq_true rfl)) sh_96 g14 rfl dX11_leave_58 eM15 ?_
      obtain ⟨x16, ex16, h⟩ := bd_e h
      refine v_iinc (v := x16) (pc := 59) 1 [(1, .int x16), (0, .ref (ad 95))] hX dX11_leave_59 rfl (ex16.trans (by rw [ic_1])) (by decide) rfl ?_
      refine v_goto (pc := 62) (tgt := 36) hX dX11_leave_62 (by decide) ?_
      obtain rfl := Option.some.inj h
      exact v_sub [1, 0] rfl hK
  )
  obtain ⟨M18, h22, h⟩ := b1_e h
  refine v_sub [1, 0] rfl ?_
  refine L17 1000 _ _ h22 ?_
  show VV X 2 ad cs M18 65 [(0, .ref (ad 95))] []
  refine v_aload_n (pc := 65) 0 hX dX11_leave_65 rfl ?_
  refine v_getR (pc := 66) (t := 96) hX (hcs 95 (Nat.le_of_ble_eq_true rfl) (Nat.le_of_ble_eq_true rfl)) sh_95 fl_11_7 rfl dX11_leave_66 ?_
  refine v_bipush (pc := 69) hX dX11_leave_69 bp_10 ?_
  refine v_dup2 (pc := 71) hX dX11_leave_71 rfl rfl ?_
  refine v_iald (pc := 72) hX (hcs 96 (Nat.le_of_ble_eq_true rfl) (Nat.le_of_ble_eq_true rfl)) sh_96 (ib_10 (by decide)) ix_10 dX11_leave_72 ?_
  refine v_aload_n (pc := 73) 0 hX dX11_leave_73 rfl ?_
  refine v_getR (pc := 74) (t := 96) hX (hcs 95 (Nat.le_of_ble_eq_true rfl) (Nat.le_of_ble_eq_true rfl)) sh_95 fl_11_7 rfl dX11_leave_74 ?_
  refine v_bipush (pc := 77) hX dX11_leave_77 bp_10 ?_
  refine v_iald (pc := 79) hX (hcs 96 (Nat.le_of_ble_eq_true rfl) (Nat.le_of_ble_eq_true rfl)) sh_96 (ib_10 (by decide)) ix_10 dX11_leave_79 ?_
  refine v_bipush (pc := 80) hX dX11_leave_80 bp_6 ?_
  refine v_icmp_ge (pc := 82) (tgt := 89) hX dX11_leave_82 (by decide) (fun h19 => ?_) (fun h19 => ?_)
  · have h := if_t h h19
    refine v_iconst (pc := 89) hX dX11_leave_89 ic_0 ?_
    refine v_iadd (pc := 90) hX dX11_leave_90 ?_
    obtain ⟨M20, eM20, h⟩ := bd_e h
    refine v_iast (pc := 91) hX (hcs 96 (Nat.le_of_ble_eq_true rfl) (Nat.le_of_ble_eq_true rfl)) sh_96 (ib_10 (by decide)) ix_10 dX11_leave_91 eM20 ?_
    obtain rfl := Option.some.inj h
    exact v_vret (pc := 92) hX hR dX11_leave_92
  · have h := if_f h h19
    refine v_iconst (pc := 85) hX dX11_leave_85 ic_1 ?_
    refine v_goto (pc := 86) (tgt := 90) hX dX11_leave_86 (by decide) ?_
    refine v_iadd (pc := 90) hX dX11_leave_90 ?_
    obtain ⟨M21, eM21, h⟩ := bd_e h
    refine v_iast (pc := 91) hX (hcs 96 (Nat.le_of_ble_eq_true rfl) (Nat.le_of_ble_eq_true rfl)) sh_96 (ib_10 (by decide)) ix_10 dX11_leave_91 eM21 ?_
    obtain rfl := Option.some.inj h
    exact v_vret (pc := 92) hX hR dX11_leave_92
set_option maxHeartbeats 4000000 in
set_option maxRecDepth 100000 in
theorem c_X11_take {ad : Nat → Nat} {cs : List Nat} (hcs : ∀ k, 95 ≤ k → k < 97 → k ∈ cs) (M : Mm) (w1 : Int32) (w2 : Int32) (q : Mm) (h : fX11_take M w1 w2 = some q) : CT ad cs yX11_take cX11_take 3 none 2 45 [.ref (ad 95), .int w1, .int w2] M none q := by
  refine CT.of RX11 (by decide +kernel) rfl (Nat.le_of_ble_eq_true rfl) (fun X hX hR => ?_)
  unfold fX11_take at h
  show VV X 3 ad cs M 0 [(0, .ref (ad 95)), (1, .int w1), (2, .int w2)] []
  refine v_aload_n (pc := 0) 0 hX dX11_take_0 rfl ?_
  obtain ⟨M2, h1, h⟩ := b1_e h
  refine v_callV (pc := 1) [] none M2 hX cv_11_131 (c_X11_leave (sub_cs hcs (Nat.le_of_ble_eq_true rfl) (Nat.le_of_ble_eq_true rfl)) M M2 h1) (hcs 95 (Nat.le_of_ble_eq_true rfl) (Nat.le_of_ble_eq_true rfl)) sh_95 rfl rfl rfl ⟨Nat.le_of_ble_eq_true rfl, Nat.le_of_ble_eq_true rfl⟩ (Nat.le_of_ble_eq_true rfl) dX11_take_1 ?_
  show VV X 3 ad cs M2 4 [(0, .ref (ad 95)), (1, .int w1), (2, .int w2)] []
  refine v_aload_n (pc := 4) 0 hX dX11_take_4 rfl ?_
  refine v_aload_n (pc := 5) 0 hX dX11_take_5 rfl ?_
  refine v_iload_n (pc := 6) 1 hX dX11_take_6 rfl ?_
  refine v_iconst (pc := 7) hX dX11_take_7 ic_0 ?_
  refine v_iload_n (pc := 8) 2 hX dX11_take_8 rfl ?_
  obtain ⟨x4, h3, h⟩ := b1_e h
  refine v_callV (pc := 9) [.int w1, .int 0, .int w2] (some (.int x4)) M2 hX cv_11_113 (c_X11_trialAt (sub_cs hcs (Nat.le_of_ble_eq_true rfl) (Nat.le_of_ble_eq_true rfl)) M2 w1 0 w2 x4 h3) (hcs 95 (Nat.le_of_ble_eq_true rfl) (Nat.le_of_ble_eq_true rfl)) sh_95 rfl rfl rfl ⟨Nat.le_of_ble_eq_true rfl, Nat.le_of_ble_eq_true rfl⟩ (Nat.le_of_ble_eq_true rfl) dX11_take_9 ?_
  show VV X 3 ad cs M2 12 [(0, .ref (ad 95)), (1, .int w1), (2, .int w2)] [.int x4, .ref (ad 95)]
  refine v_aload_n (pc := 12) 0 hX dX11_take_12 rfl ?_
  refine v_iload_n (pc := 13) 1 hX dX11_take_13 rfl ?_
  refine v_iconst (pc := 14) hX dX11_take_14 ic_1 ?_
  refine v_iload_n (pc := 15) 2 hX dX11_take_15 rfl ?_
  obtain ⟨x6, h5, h⟩ := b1_e h
  refine v_callV (pc := 16) [.int w1, .int 1, .int w2] (some (.int x6)) M2 hX cv_11_113 (c_X11_trialAt (sub_cs hcs (Nat.le_of_ble_eq_true rfl) (Nat.le_of_ble_eq_true rfl)) M2 w1 1 w2 x6 h5) (hcs 95 (Nat.le_of_ble_eq_true rfl) (Nat.le_of_ble_eq_true rfl)) sh_95 rfl rfl rfl ⟨Nat.le_of_ble_eq_true rfl, Nat.le_of_ble_eq_true rfl⟩ (Nat.le_of_ble_eq_true rfl) dX11_take_16 ?_
  show VV X 3 ad cs M2 19 [(0, .ref (ad 95)), (1, .int w1), (2, .int w2)] [.int x6, .int x4, .ref (ad 95)]
  refine v_aload_n (pc := 19) 0 hX dX11_take_19 rfl ?_
  refine v_iload_n (pc := 20) 1 hX dX11_take_20 rfl ?_
  refine v_iconst (pc := 21) hX dX11_take_21 ic_2 ?_
  refine v_iload_n (pc := 22) 2 hX dX11_take_22 rfl ?_
  obtain ⟨x8, h7, h⟩ := b1_e h
  refine v_callV (pc := 23) [.int w1, .int 2, .int w2] (some (.int x8)) M2 hX cv_11_113 (c_X11_trialAt (sub_cs hcs (Nat.le_of_ble_eq_true rfl) (Nat.le_of_ble_eq_true rfl)) M2 w1 2 w2 x8 h7) (hcs 95 (Nat.le_of_ble_eq_true rfl) (Nat.le_of_ble_eq_true rfl)) sh_95 rfl rfl rfl ⟨Nat.le_of_ble_eq_true rfl, Nat.le_of_ble_eq_true rfl⟩ (Nat.le_of_ble_eq_true rfl) dX11_take_23 ?_
  show VV X 3 ad cs M2 26 [(0, .ref (ad 95)), (1, .int w1), (2, .int w2)] [.int x8, .int x6, .int x4, .ref (ad 95)]
  obtain ⟨M10, h9, h⟩ := b1_e h
  refine v_callV (pc := 26) [.int x4, .int x6, .int x8] none M10 hX cv_11_109 (c_X11_putPlace (sub_cs hcs (Nat.le_of_ble_eq_true rfl) (Nat.le_of_ble_eq_true rfl)) M2 x4 x6 x8 M10 h9) (hcs 95 (Nat.le_of_ble_eq_true rfl) (Nat.le_of_ble_eq_true rfl)) sh_95 rfl rfl rfl ⟨Nat.le_of_ble_eq_true rfl, Nat.le_of_ble_eq_true rfl⟩ (Nat.le_of_ble_eq_true rfl) dX11_take_26 ?_
  show VV X 3 ad cs M10 29 [(0, .ref (ad 95)), (1, .int w1), (2, .int w2)] []
  refine v_aload_n (pc := 29) 0 hX dX11_take_29 rfl ?_
  refine v_getR (pc := 30) (t := 96) hX (hcs 95 (Nat.le_of_ble_eq_true rfl) (Nat.le_of_ble_eq_true rfl)) sh_95 fl_11_7 rfl dX11_take_30 ?_
  refine v_iconst (pc := 33) hX dX11_take_33 ic_3 ?_
  refine v_dup2 (pc := 34) hX dX11_take_34 rfl rfl ?_
  refine v_iald (pc := 35) hX (hcs 96 (Nat.le_of_ble_eq_true rfl) (Nat.le_of_ble_eq_true rfl)) sh_96 (ib_3 (by decide)) ix_3 dX11_take_35 ?_
  refine v_aload_n (pc := 36) 0 hX dX11_take_36 rfl ?_
  refine v_getR (pc := 37) (t := 96) hX (hcs 95 (Nat.le_of_ble_eq_true rfl) (Nat.le_of_ble_eq_true rfl)) sh_95 fl_11_7 rfl dX11_take_37 ?_
  refine v_iconst (pc := 40) hX dX11_take_40 ic_3 ?_
  refine v_iald (pc := 41) hX (hcs 96 (Nat.le_of_ble_eq_true rfl) (Nat.le_of_ble_eq_true rfl)) sh_96 (ib_3 (by decide)) ix_3 dX11_take_41 ?_
  refine v_iconst (pc := 42) hX dX11_take_42 ic_4 ?_
  obtain ⟨k11, ek11, h⟩ := bd_e h
  have K12 : ∀ (x13 : Int32), k11 x13 = some q → VV X 3 ad cs M10 51 [(0, .ref (ad 95)), (1, .int w1)] [.int x13, .int (M10.1 96 3), .int 3, .ref (ad 96)] := by
    intro x13 h
    subst ek11
    refine v_iadd (pc := 51) hX dX11_take_51 ?_
    obtain ⟨M14, eM14, h⟩ := bd_e h
    refine v_iast (pc := 52) hX (hcs 96 (Nat.le_of_ble_eq_true rfl) (Nat.le_of_ble_eq_true rfl)) sh_96 (ib_3 (by decide)) ix_3 dX11_take_52 eM14 ?_
    refine v_aload_n (pc := 53) 0 hX dX11_take_53 rfl ?_
    refine v_getR (pc := 54) (t := 96) hX (hcs 95 (Nat.le_of_ble_eq_true rfl) (Nat.le_of_ble_eq_true rfl)) sh_95 fl_11_7 rfl dX11_take_54 ?_
    refine v_bipush (pc := 57) hX dX11_take_57 bp_7 ?_
    refine v_dup2 (pc := 59) hX dX11_take_59 rfl rfl ?_
    refine v_iald (pc := 60) hX (hcs 96 (Nat.le_of_ble_eq_true rfl) (Nat.le_of_ble_eq_true rfl)) sh_96 (ib_7 (by decide)) ix_7 dX11_take_60 ?_
    refine v_iconst (pc := 61) hX dX11_take_61 ic_1 ?_
    refine v_iadd (pc := 62) hX dX11_take_62 ?_
    obtain ⟨M15, eM15, h⟩ := bd_e h
    refine v_iast (pc := 63) hX (hcs 96 (Nat.le_of_ble_eq_true rfl) (Nat.le_of_ble_eq_true rfl)) sh_96 (ib_7 (by decide)) ix_7 dX11_take_63 eM15 ?_
    refine v_aload_n (pc := 64) 0 hX dX11_take_64 rfl ?_
    refine v_getR (pc := 65) (t := 96) hX (hcs 95 (Nat.le_of_ble_eq_true rfl) (Nat.le_of_ble_eq_true rfl)) sh_95 fl_11_7 rfl dX11_take_65 ?_
    refine v_bipush (pc := 68) hX dX11_take_68 bp_9 ?_
    refine v_iload_n (pc := 70) 1 hX dX11_take_70 rfl ?_
    obtain ⟨M16, eM16, h⟩ := bd_e h
    refine v_iast (pc := 71) hX (hcs 96 (Nat.le_of_ble_eq_true rfl) (Nat.le_of_ble_eq_true rfl)) sh_96 (ib_9 (by decide)) ix_9 dX11_take_71 eM16 ?_
    refine v_aload_n (pc := 72) 0 hX dX11_take_72 rfl ?_
    refine v_getR (pc := 73) (t := 96) hX (hcs 95 (Nat.le_of_ble_eq_true rfl) (Nat.le_of_ble_eq_true rfl)) sh_95 fl_11_7 rfl dX11_take_73 ?_
    refine v_bipush (pc := 76) hX dX11_take_76 bp_61 ?_
    refine v_iconst (pc := 78) hX dX11_take_78 ic_4 ?_
    refine v_iload_n (pc := 79) 1 hX dX11_take_79 rfl ?_
    refine v_imul (pc := 80) hX dX11_take_80 ?_
    refine v_iadd (pc := 81) hX dX11_take_81 ?_
    refine v_iconst (pc := 82) hX dX11_take_82 ic_3 ?_
    refine v_iadd (pc := 83) hX dX11_take_83 ?_
    refine v_dup2 (pc := 84) hX dX11_take_84 rfl rfl ?_
    obtain ⟨g17, h⟩ := gd_e h
    refine v_iald (pc := 85) hX (hcs 96 (Nat.le_of_ble_eq_true rfl) (Nat.le_of_ble_eq_true rfl)) sh_96 g17 rfl dX11_take_85 ?_
    refine v_iconst (pc := 86) hX dX11_take_86 ic_1 ?_
    refine v_iadd (pc := 87) hX dX11_take_87 ?_
    obtain ⟨M18, eM18, h⟩ := bd_e h
    refine v_iast (pc := 88) hX (hcs 96 (Nat.le_of_ble_eq_true rfl) (Nat.le_of_ble_eq_true rfl)) sh_96 g17 rfl dX11_take_88 eM18 ?_
    obtain rfl := Option.some.inj h
    exact v_vret (pc := 89) hX hR dX11_take_89
  refine v_icmp_ge (pc := 43) (tgt := 50) hX dX11_take_43 (by decide) (fun h19 => ?_) (fun h19 => ?_)
  · have h := if_t h h19
    refine v_iconst (pc := 50) hX dX11_take_50 ic_0 ?_
    exact v_sub [0, 1] rfl (K12 0 h)
  · have h := if_f h h19
    refine v_iconst (pc := 46) hX dX11_take_46 ic_1 ?_
    refine v_goto (pc := 47) (tgt := 51) hX dX11_take_47 (by decide) ?_
    exact v_sub [0, 1] rfl (K12 1 h)
set_option maxHeartbeats 4000000 in
set_option maxRecDepth 100000 in
theorem c_X11_pollOnce {ad : Nat → Nat} {cs : List Nat} (hcs : ∀ k, 95 ≤ k → k < 101 → k ∈ cs) (M : Mm) (q : Int32 × Mm) (h : fX11_pollOnce M = some q) : CT ad cs yX11_pollOnce cX11_pollOnce 8 (some .int) 5 125 [.ref (ad 95)] M (some (.int q.1)) q.2 := by
  refine CT.of RX11 (by decide +kernel) rfl (Nat.le_of_ble_eq_true rfl) (fun X hX hR => ?_)
  unfold fX11_pollOnce at h
  show VV X 8 ad cs M 0 [(0, .ref (ad 95))] []
  refine v_iconst (pc := 0) hX dX11_pollOnce_0 ic_1 ?_
  refine v_aload_n (pc := 1) 0 hX dX11_pollOnce_1 rfl ?_
  refine v_getR (pc := 2) (t := 96) hX (hcs 95 (Nat.le_of_ble_eq_true rfl) (Nat.le_of_ble_eq_true rfl)) sh_95 fl_11_7 rfl dX11_pollOnce_2 ?_
  refine v_iconst (pc := 5) hX dX11_pollOnce_5 ic_3 ?_
  refine v_iald (pc := 6) hX (hcs 96 (Nat.le_of_ble_eq_true rfl) (Nat.le_of_ble_eq_true rfl)) sh_96 (ib_3 (by decide)) ix_3 dX11_pollOnce_6 ?_
  refine v_ishl (pc := 7) hX dX11_pollOnce_7 ?_
  obtain ⟨x1, ex1, h⟩ := bd_e h
  refine v_top ex1 ?_
  refine v_istore_n (pc := 8) [(1, .int x1), (0, .ref (ad 95))] hX dX11_pollOnce_8 (by decide) rfl ?_
  refine v_aload_n (pc := 9) 1 hX dX11_pollOnce_9 rfl ?_
  obtain ⟨M3, h2, h⟩ := b1_e h
  refine v_callV (pc := 10) [] none M3 hX cv_11_134 (c_X11_layRow (sub_cs hcs (Nat.le_of_ble_eq_true rfl) (Nat.le_of_ble_eq_true rfl)) M M3 h2) (hcs 95 (Nat.le_of_ble_eq_true rfl) (Nat.le_of_ble_eq_true rfl)) sh_95 rfl rfl rfl ⟨Nat.le_of_ble_eq_true rfl, Nat.le_of_ble_eq_true rfl⟩ (Nat.le_of_ble_eq_true rfl) dX11_pollOnce_10 ?_
  show VV X 8 ad cs M3 13 [(1, .int x1), (0, .ref (ad 95))] []
  refine v_aload_n (pc := 13) 1 hX dX11_pollOnce_13 rfl ?_
  obtain ⟨y5, h4, h⟩ := b1_e h
  refine v_callV (pc := 14) [] (some (.long y5)) M3 hX cv_11_137 (c_X11_valueHere (sub_cs hcs (Nat.le_of_ble_eq_true rfl) (Nat.le_of_ble_eq_true rfl)) M3 y5 h4) (hcs 95 (Nat.le_of_ble_eq_true rfl) (Nat.le_of_ble_eq_true rfl)) sh_95 rfl rfl rfl ⟨Nat.le_of_ble_eq_true rfl, Nat.le_of_ble_eq_true rfl⟩ (Nat.le_of_ble_eq_true rfl) dX11_pollOnce_14 ?_
  show VV X 8 ad cs M3 17 [(1, .int x1), (0, .ref (ad 95))] [.long y5]
  refine v_lstore_n (pc := 17) [(2, .long y5), (1, .int x1), (0, .ref (ad 95))] hX dX11_pollOnce_17 (by decide) rfl ?_
  refine v_iconst (pc := 18) hX dX11_pollOnce_18 ic_m1 ?_
  refine v_istore (pc := 19) [(4, .int (-1)), (2, .long y5), (1, .int x1), (0, .ref (ad 95))] hX dX11_pollOnce_19 (by decide) rfl ?_
  refine v_iconst (pc := 21) hX dX11_pollOnce_21 ic_0 ?_
  refine v_istore (pc := 22) [(5, .int 0), (4, .int (-1)), (2, .long y5), (1, .int x1), (0, .ref (ad 95))] hX dX11_pollOnce_22 (by decide) rfl ?_
  have L26 := v_itr (fX11_pollOnce_L24 x1) (fun z => VV X 8 ad cs z.2.2.2 24 [(0, .ref (ad 95)), (1, .int x1), (2, .long z.1), (4, .int z.2.1), (5, .int z.2.2.1)] []) (fun z => VV X 8 ad cs z.2 99 [(0, .ref (ad 95)), (1, .int x1), (4, .int z.1)] []) (by
    rintro ⟨y6, x7, x8, M9⟩ q h hK
    unfold fX11_pollOnce_L24 at h
    have h := u4_b h
    show VV X 8 ad cs M9 24 [(0, .ref (ad 95)), (1, .int x1), (2, .long y6), (4, .int x7), (5, .int x8)] []
    refine v_iload (pc := 24) 4 hX dX11_pollOnce_24 rfl ?_
    refine v_aload_n (pc := 26) 0 hX dX11_pollOnce_26 rfl ?_
    refine v_getI (pc := 27) hX (hcs 95 (Nat.le_of_ble_eq_true rfl) (Nat.le_of_ble_eq_true rfl)) sh_95 fl_11_121 rfl dX11_pollOnce_27 ?_
    refine v_icmp_ge (pc := 30) (tgt := 99) hX dX11_pollOnce_30 (by decide) (fun h10 => ?_) (fun h10 => ?_)
    · have h := if_t h h10
      obtain rfl := Option.some.inj h
      exact v_sub [0, 1, 3] rfl hK
    · have h := if_f h h10
      refine v_iload (pc := 33) 3 hX dX11_pollOnce_33 rfl ?_
      obtain ⟨k11, ek11, h⟩ := bd_e h
      have K12 : ∀ (_ : Unit), k11 () = some q → VV X 8 ad cs M9 48 [(0, .ref (ad 95)), (1, .int x1), (2, .long y6), (4, .int x7), (5, .int x8)] [] := by
        intro _ h
        subst ek11
        refine v_aload_n (pc := 48) 0 hX dX11_pollOnce_48 rfl ?_
        refine v_aload_n (pc := 49) 0 hX dX11_pollOnce_49 rfl ?_
        refine v_getR (pc := 50) (t := 100) hX (hcs 95 (Nat.le_of_ble_eq_true rfl) (Nat.le_of_ble_eq_true rfl)) sh_95 fl_11_23 rfl dX11_pollOnce_50 ?_
        refine v_iload (pc := 53) 4 hX dX11_pollOnce_53 rfl ?_
        obtain ⟨g13, h⟩ := gd_e h
        refine v_iald (pc := 55) hX (hcs 100 (Nat.le_of_ble_eq_true rfl) (Nat.le_of_ble_eq_true rfl)) sh_100 g13 rfl dX11_pollOnce_55 ?_
        refine v_iload_n (pc := 56) 1 hX dX11_pollOnce_56 rfl ?_
        refine v_iconst (pc := 57) hX dX11_pollOnce_57 ic_0 ?_
        obtain ⟨y15, h14, h⟩ := b1_e h
        refine v_callV (pc := 58) [.int (M9.1 100 (ix x8)), .int x1, .int 0] (some (.long y15)) M9 hX cv_11_117 (c_X11_trialValue (sub_cs hcs (Nat.le_of_ble_eq_true rfl) (Nat.le_of_ble_eq_true rfl)) M9 (M9.1 100 (ix x8)) x1 0 y15 h14) (hcs 95 (Nat.le_of_ble_eq_true rfl) (Nat.le_of_ble_eq_true rfl)) sh_95 rfl rfl rfl ⟨Nat.le_of_ble_eq_true rfl, Nat.le_of_ble_eq_true rfl⟩ (Nat.le_of_ble_eq_true rfl) dX11_pollOnce_58 ?_
        show VV X 8 ad cs M9 61 [(0, .ref (ad 95)), (1, .int x1), (2, .long y6), (4, .int x7), (5, .int x8)] [.long y15]
        refine v_lstore (pc := 61) [(6, .long y15), (0, .ref (ad 95)), (1, .int x1), (2, .long y6), (4, .int x7), (5, .int x8)] hX dX11_pollOnce_61 (by decide) rfl ?_
        refine v_aload_n (pc := 63) 1 hX dX11_pollOnce_63 rfl ?_
        refine v_getR (pc := 64) (t := 96) hX (hcs 95 (Nat.le_of_ble_eq_true rfl) (Nat.le_of_ble_eq_true rfl)) sh_95 fl_11_7 rfl dX11_pollOnce_64 ?_
        refine v_bipush (pc := 67) hX dX11_pollOnce_67 bp_8 ?_
        refine v_dup2 (pc := 69) hX dX11_pollOnce_69 rfl rfl ?_
        refine v_iald (pc := 70) hX (hcs 96 (Nat.le_of_ble_eq_true rfl) (Nat.le_of_ble_eq_true rfl)) sh_96 (ib_8 (by decide)) ix_8 dX11_pollOnce_70 ?_
        refine v_iconst (pc := 71) hX dX11_pollOnce_71 ic_1 ?_
        refine v_iadd (pc := 72) hX dX11_pollOnce_72 ?_
        obtain ⟨M16, eM16, h⟩ := bd_e h
        refine v_iast (pc := 73) hX (hcs 96 (Nat.le_of_ble_eq_true rfl) (Nat.le_of_ble_eq_true rfl)) sh_96 (ib_8 (by decide)) ix_8 dX11_pollOnce_73 eM16 ?_
        refine v_lload (pc := 74) 0 hX dX11_pollOnce_74 rfl ?_
        refine v_lload_n (pc := 76) 3 hX dX11_pollOnce_76 rfl ?_
        refine v_lcmp (pc := 77) hX dX11_pollOnce_77 ?_
        obtain ⟨k17, ek17, h⟩ := bd_e h
        have K18 : ∀ (y19 : Int64) (x20 : Int32), k17 y19 x20 = some q → VV X 8 ad cs M16 93 [(0, .ref (ad 95)), (1, .int x1), (2, .long y19), (4, .int x20), (5, .int x8)] [] := by
          intro y19 x20 h
          subst ek17
          obtain ⟨x21, ex21, h⟩ := bd_e h
          refine v_iinc (v := x21) (pc := 93) 4 [(5, .int x21), (0, .ref (ad 95)), (1, .int x1), (2, .long y19), (4, .int x20)] hX dX11_pollOnce_93 rfl (ex21.trans (by rw [ic_1])) (by decide) rfl ?_
          refine v_goto (pc := 96) (tgt := 24) hX dX11_pollOnce_96 (by decide) ?_
          obtain rfl := Option.some.inj h
          exact v_sub [1, 2, 3, 4, 0] rfl hK
        refine v_if_ge (pc := 78) (tgt := 93) hX dX11_pollOnce_78 (by decide) (fun h22 => ?_) (fun h22 => ?_)
        · have h := if_t h h22
          exact v_sub [1, 2, 3, 4, 5] rfl (K18 y6 x7 h)
        · have h := if_f h h22
          refine v_lload (pc := 81) 0 hX dX11_pollOnce_81 rfl ?_
          refine v_lstore_n (pc := 83) [(2, .long y15), (6, .long y15), (0, .ref (ad 95)), (1, .int x1), (4, .int x7), (5, .int x8)] hX dX11_pollOnce_83 (by decide) rfl ?_
          refine v_aload_n (pc := 84) 2 hX dX11_pollOnce_84 rfl ?_
          refine v_getR (pc := 85) (t := 100) hX (hcs 95 (Nat.le_of_ble_eq_true rfl) (Nat.le_of_ble_eq_true rfl)) sh_95 fl_11_23 rfl dX11_pollOnce_85 ?_
          refine v_iload (pc := 88) 5 hX dX11_pollOnce_88 rfl ?_
          refine v_iald (pc := 90) hX (hcs 100 (Nat.le_of_ble_eq_true rfl) (Nat.le_of_ble_eq_true rfl)) sh_100 g13 rfl dX11_pollOnce_90 ?_
          obtain ⟨x23, ex23, h⟩ := bd_e h
          refine v_top ex23 ?_
          refine v_istore (pc := 91) [(4, .int x23), (2, .long y15), (6, .long y15), (0, .ref (ad 95)), (1, .int x1), (5, .int x8)] hX dX11_pollOnce_91 (by decide) rfl ?_
          exact v_sub [3, 4, 1, 0, 5] rfl (K18 y15 x23 h)
      refine v_if_lt (pc := 35) (tgt := 48) hX dX11_pollOnce_35 (by decide) (fun h24 => ?_) (fun h24 => ?_)
      · have h := if_t h h24
        exact v_sub [0, 1, 2, 3, 4] rfl (K12 () h)
      · have h := if_f h h24
        refine v_aload_n (pc := 38) 0 hX dX11_pollOnce_38 rfl ?_
        refine v_getR (pc := 39) (t := 96) hX (hcs 95 (Nat.le_of_ble_eq_true rfl) (Nat.le_of_ble_eq_true rfl)) sh_95 fl_11_7 rfl dX11_pollOnce_39 ?_
        refine v_iconst (pc := 42) hX dX11_pollOnce_42 ic_5 ?_
        refine v_iald (pc := 43) hX (hcs 96 (Nat.le_of_ble_eq_true rfl) (Nat.le_of_ble_eq_true rfl)) sh_96 (ib_5 (by decide)) ix_5 dX11_pollOnce_43 ?_
        refine v_iconst (pc := 44) hX dX11_pollOnce_44 ic_1 ?_
        refine v_icmp_ne (pc := 45) (tgt := 99) hX dX11_pollOnce_45 (by decide) (fun h25 => ?_) (fun h25 => ?_)
        · have h := if_f h h25
          obtain rfl := Option.some.inj h
          exact v_sub [0, 1, 3] rfl hK
        · have h := if_t h h25
          exact v_sub [0, 1, 2, 3, 4] rfl (K12 () h)
  )
  obtain ⟨x27, M28, h44, h⟩ := b2_e h
  refine v_sub [4, 3, 2, 1, 0] rfl ?_
  refine L26 1000 _ _ h44 ?_
  show VV X 8 ad cs M28 99 [(0, .ref (ad 95)), (1, .int x1), (4, .int x27)] []
  refine v_aload_n (pc := 99) 0 hX dX11_pollOnce_99 rfl ?_
  refine v_getR (pc := 100) (t := 96) hX (hcs 95 (Nat.le_of_ble_eq_true rfl) (Nat.le_of_ble_eq_true rfl)) sh_95 fl_11_7 rfl dX11_pollOnce_100 ?_
  refine v_bipush (pc := 103) hX dX11_pollOnce_103 bp_6 ?_
  refine v_dup2 (pc := 105) hX dX11_pollOnce_105 rfl rfl ?_
  refine v_iald (pc := 106) hX (hcs 96 (Nat.le_of_ble_eq_true rfl) (Nat.le_of_ble_eq_true rfl)) sh_96 (ib_6 (by decide)) ix_6 dX11_pollOnce_106 ?_
  refine v_iconst (pc := 107) hX dX11_pollOnce_107 ic_1 ?_
  refine v_iadd (pc := 108) hX dX11_pollOnce_108 ?_
  obtain ⟨M29, eM29, h⟩ := bd_e h
  refine v_iast (pc := 109) hX (hcs 96 (Nat.le_of_ble_eq_true rfl) (Nat.le_of_ble_eq_true rfl)) sh_96 (ib_6 (by decide)) ix_6 dX11_pollOnce_109 eM29 ?_
  refine v_aload_n (pc := 110) 0 hX dX11_pollOnce_110 rfl ?_
  refine v_getR (pc := 111) (t := 96) hX (hcs 95 (Nat.le_of_ble_eq_true rfl) (Nat.le_of_ble_eq_true rfl)) sh_95 fl_11_7 rfl dX11_pollOnce_111 ?_
  refine v_bipush (pc := 114) hX dX11_pollOnce_114 bp_11 ?_
  refine v_iload (pc := 116) 2 hX dX11_pollOnce_116 rfl ?_
  obtain ⟨k30, ek30, h⟩ := bd_e h
  have K31 : ∀ (x32 : Int32), k30 x32 = some q → VV X 8 ad cs M29 131 [(0, .ref (ad 95)), (1, .int x1), (4, .int x27)] [.int x32, .int 11, .ref (ad 96)] := by
    intro x32 h
    subst ek30
    obtain ⟨M33, eM33, h⟩ := bd_e h
    refine v_iast (pc := 131) hX (hcs 96 (Nat.le_of_ble_eq_true rfl) (Nat.le_of_ble_eq_true rfl)) sh_96 (ib_11 (by decide)) ix_11 dX11_pollOnce_131 eM33 ?_
    refine v_iload (pc := 132) 2 hX dX11_pollOnce_132 rfl ?_
    refine v_if_lt (pc := 134) (tgt := 147) hX dX11_pollOnce_134 (by decide) (fun h34 => ?_) (fun h34 => ?_)
    · have h := if_t h h34
      refine v_aload_n (pc := 147) 0 hX dX11_pollOnce_147 rfl ?_
      refine v_getR (pc := 148) (t := 96) hX (hcs 95 (Nat.le_of_ble_eq_true rfl) (Nat.le_of_ble_eq_true rfl)) sh_95 fl_11_7 rfl dX11_pollOnce_148 ?_
      refine v_iconst (pc := 151) hX dX11_pollOnce_151 ic_3 ?_
      refine v_dup2 (pc := 152) hX dX11_pollOnce_152 rfl rfl ?_
      refine v_iald (pc := 153) hX (hcs 96 (Nat.le_of_ble_eq_true rfl) (Nat.le_of_ble_eq_true rfl)) sh_96 (ib_3 (by decide)) ix_3 dX11_pollOnce_153 ?_
      refine v_aload_n (pc := 154) 0 hX dX11_pollOnce_154 rfl ?_
      refine v_getR (pc := 155) (t := 96) hX (hcs 95 (Nat.le_of_ble_eq_true rfl) (Nat.le_of_ble_eq_true rfl)) sh_95 fl_11_7 rfl dX11_pollOnce_155 ?_
      refine v_iconst (pc := 158) hX dX11_pollOnce_158 ic_3 ?_
      refine v_iald (pc := 159) hX (hcs 96 (Nat.le_of_ble_eq_true rfl) (Nat.le_of_ble_eq_true rfl)) sh_96 (ib_3 (by decide)) ix_3 dX11_pollOnce_159 ?_
      refine v_if_le (pc := 160) (tgt := 167) hX dX11_pollOnce_160 (by decide) (fun h35 => ?_) (fun h35 => ?_)
      · have h := if_t h h35
        refine v_iconst (pc := 167) hX dX11_pollOnce_167 ic_0 ?_
        refine v_isub (pc := 168) hX dX11_pollOnce_168 ?_
        obtain ⟨M36, eM36, h⟩ := bd_e h
        refine v_iast (pc := 169) hX (hcs 96 (Nat.le_of_ble_eq_true rfl) (Nat.le_of_ble_eq_true rfl)) sh_96 (ib_3 (by decide)) ix_3 dX11_pollOnce_169 eM36 ?_
        refine v_iload (pc := 170) 2 hX dX11_pollOnce_170 rfl ?_
        obtain rfl := Option.some.inj h
        exact v_iret (pc := 172) hX hR dX11_pollOnce_172
      · have h := if_f h h35
        refine v_iconst (pc := 163) hX dX11_pollOnce_163 ic_1 ?_
        refine v_goto (pc := 164) (tgt := 168) hX dX11_pollOnce_164 (by decide) ?_
        refine v_isub (pc := 168) hX dX11_pollOnce_168 ?_
        obtain ⟨M37, eM37, h⟩ := bd_e h
        refine v_iast (pc := 169) hX (hcs 96 (Nat.le_of_ble_eq_true rfl) (Nat.le_of_ble_eq_true rfl)) sh_96 (ib_3 (by decide)) ix_3 dX11_pollOnce_169 eM37 ?_
        refine v_iload (pc := 170) 2 hX dX11_pollOnce_170 rfl ?_
        obtain rfl := Option.some.inj h
        exact v_iret (pc := 172) hX hR dX11_pollOnce_172
    · have h := if_f h h34
      refine v_aload_n (pc := 137) 0 hX dX11_pollOnce_137 rfl ?_
      refine v_iload (pc := 138) 2 hX dX11_pollOnce_138 rfl ?_
      refine v_iload_n (pc := 140) 1 hX dX11_pollOnce_140 rfl ?_
      obtain ⟨M39, h38, h⟩ := b1_e h
      refine v_callV (pc := 141) [.int x27, .int x1] none M39 hX cv_11_141 (c_X11_take (sub_cs hcs (Nat.le_of_ble_eq_true rfl) (Nat.le_of_ble_eq_true rfl)) M33 x27 x1 M39 h38) (hcs 95 (Nat.le_of_ble_eq_true rfl) (Nat.le_of_ble_eq_true rfl)) sh_95 rfl rfl rfl ⟨Nat.le_of_ble_eq_true rfl, Nat.le_of_ble_eq_true rfl⟩ (Nat.le_of_ble_eq_true rfl) dX11_pollOnce_141 ?_
      show VV X 8 ad cs M39 144 [(0, .ref (ad 95)), (1, .int x1), (4, .int x27)] []
      refine v_goto (pc := 144) (tgt := 170) hX dX11_pollOnce_144 (by decide) ?_
      refine v_iload (pc := 170) 2 hX dX11_pollOnce_170 rfl ?_
      obtain rfl := Option.some.inj h
      exact v_iret (pc := 172) hX hR dX11_pollOnce_172
  obtain ⟨k40, ek40, h⟩ := bd_e h
  have K41 : ∀ (_ : Unit), k40 () = some q → VV X 8 ad cs M29 130 [(0, .ref (ad 95)), (1, .int x1), (4, .int x27)] [.int 11, .ref (ad 96)] := by
    intro _ h
    subst ek40
    refine v_iconst (pc := 130) hX dX11_pollOnce_130 ic_0 ?_
    exact v_sub [0, 1, 2] rfl (K31 0 h)
  refine v_if_ge (pc := 118) (tgt := 130) hX dX11_pollOnce_118 (by decide) (fun h42 => ?_) (fun h42 => ?_)
  · have h := if_t h h42
    exact v_sub [0, 1, 2] rfl (K41 () h)
  · have h := if_f h h42
    refine v_iload_n (pc := 121) 1 hX dX11_pollOnce_121 rfl ?_
    refine v_iconst (pc := 122) hX dX11_pollOnce_122 ic_1 ?_
    refine v_icmp_ne (pc := 123) (tgt := 130) hX dX11_pollOnce_123 (by decide) (fun h43 => ?_) (fun h43 => ?_)
    · have h := if_f h h43
      exact v_sub [0, 1, 2] rfl (K41 () h)
    · have h := if_t h h43
      refine v_iconst (pc := 126) hX dX11_pollOnce_126 ic_1 ?_
      refine v_goto (pc := 127) (tgt := 131) hX dX11_pollOnce_127 (by decide) ?_
      exact v_sub [0, 1, 2] rfl (K31 1 h)
set_option maxHeartbeats 4000000 in
set_option maxRecDepth 100000 in
theorem c_X11_poll {ad : Nat → Nat} {cs : List Nat} (hcs : ∀ k, 95 ≤ k → k < 101 → k ∈ cs) (M : Mm) (q : Int32 × Mm) (h : fX11_poll M = some q) : CT ad cs yX11_poll cX11_poll 1 (some .int) 6 152 [.ref (ad 95)] M (some (.int q.1)) q.2 := by
  refine CT.of RX11 (by decide +kernel) rfl (Nat.le_of_ble_eq_true rfl) (fun X hX hR => ?_)
  unfold fX11_poll at h
  show VV X 1 ad cs M 0 [(0, .ref (ad 95))] []
  refine v_aload_n (pc := 0) 0 hX dX11_poll_0 rfl ?_
  obtain ⟨x2, h1, h⟩ := b1_e h
  refine v_callV (pc := 1) [] (some (.int x2)) M hX cv_11_145 (c_X11_canPoll (sub_cs hcs (Nat.le_of_ble_eq_true rfl) (Nat.le_of_ble_eq_true rfl)) M x2 h1) (hcs 95 (Nat.le_of_ble_eq_true rfl) (Nat.le_of_ble_eq_true rfl)) sh_95 rfl rfl rfl ⟨Nat.le_of_ble_eq_true rfl, Nat.le_of_ble_eq_true rfl⟩ (Nat.le_of_ble_eq_true rfl) dX11_poll_1 ?_
  show VV X 1 ad cs M 4 [(0, .ref (ad 95))] [.int x2]
  refine v_if_ne (pc := 4) (tgt := 10) hX dX11_poll_4 (by decide) (fun h3 => ?_) (fun h3 => ?_)
  · have h := if_f h h3
    refine v_aload_n (pc := 10) 0 hX dX11_poll_10 rfl ?_
    obtain ⟨M5, h4, h⟩ := b1_e h
    refine v_callV (pc := 11) [] none M5 hX cv_11_45 (c_X11_record (sub_cs hcs (Nat.le_of_ble_eq_true rfl) (Nat.le_of_ble_eq_true rfl)) M M5 h4) (hcs 95 (Nat.le_of_ble_eq_true rfl) (Nat.le_of_ble_eq_true rfl)) sh_95 rfl rfl rfl ⟨Nat.le_of_ble_eq_true rfl, Nat.le_of_ble_eq_true rfl⟩ (Nat.le_of_ble_eq_true rfl) dX11_poll_11 ?_
    show VV X 1 ad cs M5 14 [(0, .ref (ad 95))] []
    refine v_aload_n (pc := 14) 0 hX dX11_poll_14 rfl ?_
    obtain ⟨x7, M8, h6, h⟩ := b2_e h
    refine v_callV (pc := 15) [] (some (.int x7)) M8 hX cv_11_148 (c_X11_pollOnce (sub_cs hcs (Nat.le_of_ble_eq_true rfl) (Nat.le_of_ble_eq_true rfl)) M5 (x7, M8) h6) (hcs 95 (Nat.le_of_ble_eq_true rfl) (Nat.le_of_ble_eq_true rfl)) sh_95 rfl rfl rfl ⟨Nat.le_of_ble_eq_true rfl, Nat.le_of_ble_eq_true rfl⟩ (Nat.le_of_ble_eq_true rfl) dX11_poll_15 ?_
    show VV X 1 ad cs M8 18 [(0, .ref (ad 95))] [.int x7]
    obtain rfl := Option.some.inj h
    exact v_iret (pc := 18) hX hR dX11_poll_18
  · have h := if_t h h3
    refine v_ldc (pc := 7) hX kc_11_40 dX11_poll_7 ?_
    obtain rfl := Option.some.inj h
    exact v_iret (pc := 9) hX hR dX11_poll_9
set_option maxHeartbeats 4000000 in
set_option maxRecDepth 100000 in
theorem c_X11_run {ad : Nat → Nat} {cs : List Nat} (hcs : ∀ k, 95 ≤ k → k < 101 → k ∈ cs) (M : Mm) (w1 : Int32) (q : Int32 × Mm) (h : fX11_run M w1 = some q) : CT ad cs yX11_run cX11_run 4 (some .int) 6 152 [.ref (ad 95), .int w1] M (some (.int q.1)) q.2 := by
  refine CT.of RX11 (by decide +kernel) rfl (Nat.le_of_ble_eq_true rfl) (fun X hX hR => ?_)
  unfold fX11_run at h
  show VV X 4 ad cs M 0 [(0, .ref (ad 95)), (1, .int w1)] []
  refine v_iload_n (pc := 0) 1 hX dX11_run_0 rfl ?_
  refine v_iconst (pc := 1) hX dX11_run_1 ic_1 ?_
  refine v_bipush (pc := 2) hX dX11_run_2 bp_60 ?_
  obtain ⟨x2, h1, h⟩ := b1_e h
  refine v_callS (pc := 4) [.int w1, .int 1, .int 60] (some (.int x2)) M hX cv_11_48 (c_X11_in M w1 1 60 x2 h1) rfl rfl ⟨Nat.le_of_ble_eq_true rfl, Nat.le_of_ble_eq_true rfl⟩ (Nat.le_of_ble_eq_true rfl) dX11_run_4 ?_
  show VV X 4 ad cs M 7 [(0, .ref (ad 95)), (1, .int w1)] [.int x2]
  refine v_if_ne (pc := 7) (tgt := 13) hX dX11_run_7 (by decide) (fun h3 => ?_) (fun h3 => ?_)
  · have h := if_f h h3
    refine v_aload_n (pc := 13) 0 hX dX11_run_13 rfl ?_
    obtain ⟨x5, h4, h⟩ := b1_e h
    refine v_callV (pc := 14) [] (some (.int x5)) M hX cv_11_145 (c_X11_canPoll (sub_cs hcs (Nat.le_of_ble_eq_true rfl) (Nat.le_of_ble_eq_true rfl)) M x5 h4) (hcs 95 (Nat.le_of_ble_eq_true rfl) (Nat.le_of_ble_eq_true rfl)) sh_95 rfl rfl rfl ⟨Nat.le_of_ble_eq_true rfl, Nat.le_of_ble_eq_true rfl⟩ (Nat.le_of_ble_eq_true rfl) dX11_run_14 ?_
    show VV X 4 ad cs M 17 [(0, .ref (ad 95)), (1, .int w1)] [.int x5]
    refine v_if_ne (pc := 17) (tgt := 23) hX dX11_run_17 (by decide) (fun h6 => ?_) (fun h6 => ?_)
    · have h := if_f h h6
      refine v_aload_n (pc := 23) 0 hX dX11_run_23 rfl ?_
      obtain ⟨M8, h7, h⟩ := b1_e h
      refine v_callV (pc := 24) [] none M8 hX cv_11_45 (c_X11_record (sub_cs hcs (Nat.le_of_ble_eq_true rfl) (Nat.le_of_ble_eq_true rfl)) M M8 h7) (hcs 95 (Nat.le_of_ble_eq_true rfl) (Nat.le_of_ble_eq_true rfl)) sh_95 rfl rfl rfl ⟨Nat.le_of_ble_eq_true rfl, Nat.le_of_ble_eq_true rfl⟩ (Nat.le_of_ble_eq_true rfl) dX11_run_24 ?_
      show VV X 4 ad cs M8 27 [(0, .ref (ad 95)), (1, .int w1)] []
      refine v_iconst (pc := 27) hX dX11_run_27 ic_0 ?_
      refine v_istore_n (pc := 28) [(2, .int 0), (0, .ref (ad 95)), (1, .int w1)] hX dX11_run_28 (by decide) rfl ?_
      refine v_iconst (pc := 29) hX dX11_run_29 ic_1 ?_
      refine v_istore_n (pc := 30) [(3, .int 1), (2, .int 0), (0, .ref (ad 95)), (1, .int w1)] hX dX11_run_30 (by decide) rfl ?_
      have L22 := v_itr (fX11_run_L31 w1) (fun z => VV X 4 ad cs z.2.2 31 [(0, .ref (ad 95)), (1, .int w1), (2, .int z.1), (3, .int z.2.1)] []) (fun z => VV X 4 ad cs z.2 67 [(2, .int z.1)] []) (by
        rintro ⟨x9, x10, M11⟩ q h hK
        unfold fX11_run_L31 at h
        have h := u3_b h
        show VV X 4 ad cs M11 31 [(0, .ref (ad 95)), (1, .int w1), (2, .int x9), (3, .int x10)] []
        refine v_iload_n (pc := 31) 3 hX dX11_run_31 rfl ?_
        refine v_if_eq (pc := 32) (tgt := 67) hX dX11_run_32 (by decide) (fun h12 => ?_) (fun h12 => ?_)
        · have h := if_t h h12
          obtain rfl := Option.some.inj h
          exact v_sub [2] rfl hK
        · have h := if_f h h12
          refine v_iload_n (pc := 35) 2 hX dX11_run_35 rfl ?_
          refine v_iload_n (pc := 36) 1 hX dX11_run_36 rfl ?_
          refine v_icmp_ge (pc := 37) (tgt := 67) hX dX11_run_37 (by decide) (fun h13 => ?_) (fun h13 => ?_)
          · have h := if_t h h13
            obtain rfl := Option.some.inj h
            exact v_sub [2] rfl hK
          · have h := if_f h h13
            refine v_aload_n (pc := 40) 0 hX dX11_run_40 rfl ?_
            obtain ⟨x15, M16, h14, h⟩ := b2_e h
            refine v_callV (pc := 41) [] (some (.int x15)) M16 hX cv_11_148 (c_X11_pollOnce (sub_cs hcs (Nat.le_of_ble_eq_true rfl) (Nat.le_of_ble_eq_true rfl)) M11 (x15, M16) h14) (hcs 95 (Nat.le_of_ble_eq_true rfl) (Nat.le_of_ble_eq_true rfl)) sh_95 rfl rfl rfl ⟨Nat.le_of_ble_eq_true rfl, Nat.le_of_ble_eq_true rfl⟩ (Nat.le_of_ble_eq_true rfl) dX11_run_41 ?_
            show VV X 4 ad cs M16 44 [(0, .ref (ad 95)), (1, .int w1), (2, .int x9), (3, .int x10)] [.int x15]
            refine v_pop (pc := 44) hX dX11_run_44 rfl ?_
            obtain ⟨x17, ex17, h⟩ := bd_e h
            refine v_iinc (v := x17) (pc := 45) 2 [(2, .int x17), (0, .ref (ad 95)), (1, .int w1), (3, .int x10)] hX dX11_run_45 rfl (ex17.trans (by rw [ic_1])) (by decide) rfl ?_
            refine v_aload_n (pc := 48) 1 hX dX11_run_48 rfl ?_
            refine v_getR (pc := 49) (t := 96) hX (hcs 95 (Nat.le_of_ble_eq_true rfl) (Nat.le_of_ble_eq_true rfl)) sh_95 fl_11_7 rfl dX11_run_49 ?_
            refine v_bipush (pc := 52) hX dX11_run_52 bp_11 ?_
            refine v_iald (pc := 54) hX (hcs 96 (Nat.le_of_ble_eq_true rfl) (Nat.le_of_ble_eq_true rfl)) sh_96 (ib_11 (by decide)) ix_11 dX11_run_54 ?_
            obtain ⟨k18, ek18, h⟩ := bd_e h
            have K19 : ∀ (x20 : Int32), k18 x20 = some q → VV X 4 ad cs M16 63 [(0, .ref (ad 95)), (1, .int w1), (2, .int x17)] [.int x20] := by
              intro x20 h
              subst ek18
              refine v_istore_n (pc := 63) [(3, .int x20), (0, .ref (ad 95)), (1, .int w1), (2, .int x17)] hX dX11_run_63 (by decide) rfl ?_
              refine v_goto (pc := 64) (tgt := 31) hX dX11_run_64 (by decide) ?_
              obtain rfl := Option.some.inj h
              exact v_sub [1, 2, 3, 0] rfl hK
            refine v_if_ne (pc := 55) (tgt := 62) hX dX11_run_55 (by decide) (fun h21 => ?_) (fun h21 => ?_)
            · have h := if_f h h21
              refine v_iconst (pc := 62) hX dX11_run_62 ic_0 ?_
              exact v_sub [1, 2, 0] rfl (K19 0 h)
            · have h := if_t h h21
              refine v_iconst (pc := 58) hX dX11_run_58 ic_1 ?_
              refine v_goto (pc := 59) (tgt := 63) hX dX11_run_59 (by decide) ?_
              exact v_sub [1, 2, 0] rfl (K19 1 h)
      )
      obtain ⟨x23, M24, h25, h⟩ := b2_e h
      refine v_sub [2, 3, 1, 0] rfl ?_
      refine L22 1000 _ _ h25 ?_
      show VV X 4 ad cs M24 67 [(2, .int x23)] []
      refine v_iload_n (pc := 67) 0 hX dX11_run_67 rfl ?_
      obtain rfl := Option.some.inj h
      exact v_iret (pc := 68) hX hR dX11_run_68
    · have h := if_t h h6
      refine v_ldc (pc := 20) hX kc_11_40 dX11_run_20 ?_
      obtain rfl := Option.some.inj h
      exact v_iret (pc := 22) hX hR dX11_run_22
  · have h := if_t h h3
    refine v_ldc (pc := 10) hX kc_11_70 dX11_run_10 ?_
    obtain rfl := Option.some.inj h
    exact v_iret (pc := 12) hX hR dX11_run_12
set_option maxHeartbeats 4000000 in
set_option maxRecDepth 100000 in
theorem c_X11_value {ad : Nat → Nat} {cs : List Nat} (hcs : ∀ k, 95 ≤ k → k < 97 → k ∈ cs) (M : Mm) (w1 : Int32) (w2 : Int32) (w3 : Int32) (w4 : Int32) (q : Int64) (h : fX11_value M w1 w2 w3 w4 = some q) : CT ad cs yX11_value cX11_value 5 (some .long) 2 53 [.ref (ad 95), .int w1, .int w2, .int w3, .int w4] M (some (.long q)) M := by
  refine CT.of RX11 (by decide +kernel) rfl (Nat.le_of_ble_eq_true rfl) (fun X hX hR => ?_)
  unfold fX11_value at h
  show VV X 5 ad cs M 0 [(0, .ref (ad 95)), (1, .int w1), (2, .int w2), (3, .int w3), (4, .int w4)] []
  refine v_aload_n (pc := 0) 0 hX dX11_value_0 rfl ?_
  refine v_iload_n (pc := 1) 1 hX dX11_value_1 rfl ?_
  refine v_iload_n (pc := 2) 2 hX dX11_value_2 rfl ?_
  refine v_iload_n (pc := 3) 3 hX dX11_value_3 rfl ?_
  obtain ⟨x2, h1, h⟩ := b1_e h
  refine v_callV (pc := 4) [.int w1, .int w2, .int w3] (some (.int x2)) M hX cv_11_59 (c_X11_arePlace (sub_cs hcs (Nat.le_of_ble_eq_true rfl) (Nat.le_of_ble_eq_true rfl)) M w1 w2 w3 x2 h1) (hcs 95 (Nat.le_of_ble_eq_true rfl) (Nat.le_of_ble_eq_true rfl)) sh_95 rfl rfl rfl ⟨Nat.le_of_ble_eq_true rfl, Nat.le_of_ble_eq_true rfl⟩ (Nat.le_of_ble_eq_true rfl) dX11_value_4 ?_
  show VV X 5 ad cs M 7 [(0, .ref (ad 95)), (1, .int w1), (2, .int w2), (3, .int w3), (4, .int w4)] [.int x2]
  refine v_if_eq (pc := 7) (tgt := 20) hX dX11_value_7 (by decide) (fun h3 => ?_) (fun h3 => ?_)
  · have h := if_t h h3
    refine v_ldc2 (pc := 20) hX kc_11_62 dX11_value_20 ?_
    obtain rfl := Option.some.inj h
    exact v_lret (pc := 23) hX hR dX11_value_23
  · have h := if_f h h3
    refine v_iload (pc := 10) 4 hX dX11_value_10 rfl ?_
    refine v_iconst (pc := 12) hX dX11_value_12 ic_0 ?_
    refine v_iconst (pc := 13) hX dX11_value_13 ic_1 ?_
    obtain ⟨x5, h4, h⟩ := b1_e h
    refine v_callS (pc := 14) [.int w4, .int 0, .int 1] (some (.int x5)) M hX cv_11_48 (c_X11_in M w4 0 1 x5 h4) rfl rfl ⟨Nat.le_of_ble_eq_true rfl, Nat.le_of_ble_eq_true rfl⟩ (Nat.le_of_ble_eq_true rfl) dX11_value_14 ?_
    show VV X 5 ad cs M 17 [(0, .ref (ad 95)), (1, .int w1), (2, .int w2), (3, .int w3), (4, .int w4)] [.int x5]
    refine v_if_ne (pc := 17) (tgt := 24) hX dX11_value_17 (by decide) (fun h6 => ?_) (fun h6 => ?_)
    · have h := if_f h h6
      refine v_aload_n (pc := 24) 0 hX dX11_value_24 rfl ?_
      refine v_iload_n (pc := 25) 1 hX dX11_value_25 rfl ?_
      refine v_iload_n (pc := 26) 2 hX dX11_value_26 rfl ?_
      refine v_iload_n (pc := 27) 3 hX dX11_value_27 rfl ?_
      refine v_iload (pc := 28) 4 hX dX11_value_28 rfl ?_
      refine v_iconst (pc := 30) hX dX11_value_30 ic_1 ?_
      refine v_icmp_ne (pc := 31) (tgt := 38) hX dX11_value_31 (by decide) (fun h7 => ?_) (fun h7 => ?_)
      · have h := if_f h h7
        refine v_iconst (pc := 38) hX dX11_value_38 ic_0 ?_
        obtain ⟨y9, h8, h⟩ := b1_e h
        refine v_callV (pc := 39) [.int w1, .int w2, .int w3, .int 0] (some (.long y9)) M hX cv_11_64 (c_X11_valueAt (sub_cs hcs (Nat.le_of_ble_eq_true rfl) (Nat.le_of_ble_eq_true rfl)) M w1 w2 w3 0 y9 h8) (hcs 95 (Nat.le_of_ble_eq_true rfl) (Nat.le_of_ble_eq_true rfl)) sh_95 rfl rfl rfl ⟨Nat.le_of_ble_eq_true rfl, Nat.le_of_ble_eq_true rfl⟩ (Nat.le_of_ble_eq_true rfl) dX11_value_39 ?_
        show VV X 5 ad cs M 42 [(0, .ref (ad 95)), (1, .int w1), (2, .int w2), (3, .int w3), (4, .int w4)] [.long y9]
        refine v_ldc2 (pc := 42) hX kc_11_68 dX11_value_42 ?_
        refine v_ladd (pc := 45) hX dX11_value_45 ?_
        obtain rfl := Option.some.inj h
        exact v_lret (pc := 46) hX hR dX11_value_46
      · have h := if_t h h7
        refine v_iconst (pc := 34) hX dX11_value_34 ic_1 ?_
        refine v_goto (pc := 35) (tgt := 39) hX dX11_value_35 (by decide) ?_
        obtain ⟨y11, h10, h⟩ := b1_e h
        refine v_callV (pc := 39) [.int w1, .int w2, .int w3, .int 1] (some (.long y11)) M hX cv_11_64 (c_X11_valueAt (sub_cs hcs (Nat.le_of_ble_eq_true rfl) (Nat.le_of_ble_eq_true rfl)) M w1 w2 w3 1 y11 h10) (hcs 95 (Nat.le_of_ble_eq_true rfl) (Nat.le_of_ble_eq_true rfl)) sh_95 rfl rfl rfl ⟨Nat.le_of_ble_eq_true rfl, Nat.le_of_ble_eq_true rfl⟩ (Nat.le_of_ble_eq_true rfl) dX11_value_39 ?_
        show VV X 5 ad cs M 42 [(0, .ref (ad 95)), (1, .int w1), (2, .int w2), (3, .int w3), (4, .int w4)] [.long y11]
        refine v_ldc2 (pc := 42) hX kc_11_68 dX11_value_42 ?_
        refine v_ladd (pc := 45) hX dX11_value_45 ?_
        obtain rfl := Option.some.inj h
        exact v_lret (pc := 46) hX hR dX11_value_46
    · have h := if_t h h6
      refine v_ldc2 (pc := 20) hX kc_11_62 dX11_value_20 ?_
      obtain rfl := Option.some.inj h
      exact v_lret (pc := 23) hX hR dX11_value_23
set_option maxHeartbeats 4000000 in
set_option maxRecDepth 100000 in
theorem c_X11_termOf {ad : Nat → Nat} {cs : List Nat} (hcs : ∀ k, 95 ≤ k → k < 97 → k ∈ cs) (M : Mm) (w1 : Int32) (w2 : Int32) (q : Int32) (h : fX11_termOf M w1 w2 = some q) : CT ad cs yX11_termOf cX11_termOf 3 (some .int) 1 22 [.ref (ad 95), .int w1, .int w2] M (some (.int q)) M := by
  refine CT.of RX11 (by decide +kernel) rfl (Nat.le_of_ble_eq_true rfl) (fun X hX hR => ?_)
  unfold fX11_termOf at h
  show VV X 3 ad cs M 0 [(0, .ref (ad 95)), (1, .int w1), (2, .int w2)] []
  refine v_iload_n (pc := 0) 1 hX dX11_termOf_0 rfl ?_
  refine v_if_lt (pc := 1) (tgt := 13) hX dX11_termOf_1 (by decide) (fun h1 => ?_) (fun h1 => ?_)
  · have h := if_t h h1
    refine v_ldc (pc := 13) hX kc_11_70 dX11_termOf_13 ?_
    obtain rfl := Option.some.inj h
    exact v_iret (pc := 15) hX hR dX11_termOf_15
  · have h := if_f h h1
    refine v_iload_n (pc := 4) 2 hX dX11_termOf_4 rfl ?_
    refine v_iconst (pc := 5) hX dX11_termOf_5 ic_0 ?_
    refine v_iconst (pc := 6) hX dX11_termOf_6 ic_3 ?_
    obtain ⟨x3, h2, h⟩ := b1_e h
    refine v_callS (pc := 7) [.int w2, .int 0, .int 3] (some (.int x3)) M hX cv_11_48 (c_X11_in M w2 0 3 x3 h2) rfl rfl ⟨Nat.le_of_ble_eq_true rfl, Nat.le_of_ble_eq_true rfl⟩ (Nat.le_of_ble_eq_true rfl) dX11_termOf_7 ?_
    show VV X 3 ad cs M 10 [(0, .ref (ad 95)), (1, .int w1), (2, .int w2)] [.int x3]
    refine v_if_ne (pc := 10) (tgt := 16) hX dX11_termOf_10 (by decide) (fun h4 => ?_) (fun h4 => ?_)
    · have h := if_f h h4
      refine v_iload_n (pc := 16) 1 hX dX11_termOf_16 rfl ?_
      refine v_aload_n (pc := 17) 0 hX dX11_termOf_17 rfl ?_
      refine v_getR (pc := 18) (t := 96) hX (hcs 95 (Nat.le_of_ble_eq_true rfl) (Nat.le_of_ble_eq_true rfl)) sh_95 fl_11_7 rfl dX11_termOf_18 ?_
      refine v_iconst (pc := 21) hX dX11_termOf_21 ic_1 ?_
      refine v_iald (pc := 22) hX (hcs 96 (Nat.le_of_ble_eq_true rfl) (Nat.le_of_ble_eq_true rfl)) sh_96 (ib_1 (by decide)) ix_1 dX11_termOf_22 ?_
      refine v_icmp_ge (pc := 23) (tgt := 42) hX dX11_termOf_23 (by decide) (fun h5 => ?_) (fun h5 => ?_)
      · have h := if_t h h5
        refine v_ldc (pc := 42) hX kc_11_151 dX11_termOf_42 ?_
        obtain rfl := Option.some.inj h
        exact v_iret (pc := 44) hX hR dX11_termOf_44
      · have h := if_f h h5
        refine v_aload_n (pc := 26) 0 hX dX11_termOf_26 rfl ?_
        refine v_getR (pc := 27) (t := 96) hX (hcs 95 (Nat.le_of_ble_eq_true rfl) (Nat.le_of_ble_eq_true rfl)) sh_95 fl_11_7 rfl dX11_termOf_27 ?_
        refine v_bipush (pc := 30) hX dX11_termOf_30 bp_21 ?_
        refine v_iconst (pc := 32) hX dX11_termOf_32 ic_4 ?_
        refine v_iload_n (pc := 33) 1 hX dX11_termOf_33 rfl ?_
        refine v_imul (pc := 34) hX dX11_termOf_34 ?_
        refine v_iadd (pc := 35) hX dX11_termOf_35 ?_
        refine v_iload_n (pc := 36) 2 hX dX11_termOf_36 rfl ?_
        refine v_iadd (pc := 37) hX dX11_termOf_37 ?_
        obtain ⟨g6, h⟩ := gd_e h
        refine v_iald (pc := 38) hX (hcs 96 (Nat.le_of_ble_eq_true rfl) (Nat.le_of_ble_eq_true rfl)) sh_96 g6 rfl dX11_termOf_38 ?_
        refine v_goto (pc := 39) (tgt := 44) hX dX11_termOf_39 (by decide) ?_
        obtain rfl := Option.some.inj h
        exact v_iret (pc := 44) hX hR dX11_termOf_44
    · have h := if_t h h4
      refine v_ldc (pc := 13) hX kc_11_70 dX11_termOf_13 ?_
      obtain rfl := Option.some.inj h
      exact v_iret (pc := 15) hX hR dX11_termOf_15
set_option maxHeartbeats 4000000 in
set_option maxRecDepth 100000 in
theorem c_X11_directionOf {ad : Nat → Nat} {cs : List Nat} (hcs : ∀ k, 95 ≤ k → k < 97 → k ∈ cs) (M : Mm) (w1 : Int32) (w2 : Int32) (q : Int32) (h : fX11_directionOf M w1 w2 = some q) : CT ad cs yX11_directionOf cX11_directionOf 3 (some .int) 1 22 [.ref (ad 95), .int w1, .int w2] M (some (.int q)) M := by
  refine CT.of RX11 (by decide +kernel) rfl (Nat.le_of_ble_eq_true rfl) (fun X hX hR => ?_)
  unfold fX11_directionOf at h
  show VV X 3 ad cs M 0 [(0, .ref (ad 95)), (1, .int w1), (2, .int w2)] []
  refine v_iload_n (pc := 0) 1 hX dX11_directionOf_0 rfl ?_
  refine v_if_lt (pc := 1) (tgt := 13) hX dX11_directionOf_1 (by decide) (fun h1 => ?_) (fun h1 => ?_)
  · have h := if_t h h1
    refine v_ldc (pc := 13) hX kc_11_70 dX11_directionOf_13 ?_
    obtain rfl := Option.some.inj h
    exact v_iret (pc := 15) hX hR dX11_directionOf_15
  · have h := if_f h h1
    refine v_iload_n (pc := 4) 2 hX dX11_directionOf_4 rfl ?_
    refine v_iconst (pc := 5) hX dX11_directionOf_5 ic_0 ?_
    refine v_iconst (pc := 6) hX dX11_directionOf_6 ic_3 ?_
    obtain ⟨x3, h2, h⟩ := b1_e h
    refine v_callS (pc := 7) [.int w2, .int 0, .int 3] (some (.int x3)) M hX cv_11_48 (c_X11_in M w2 0 3 x3 h2) rfl rfl ⟨Nat.le_of_ble_eq_true rfl, Nat.le_of_ble_eq_true rfl⟩ (Nat.le_of_ble_eq_true rfl) dX11_directionOf_7 ?_
    show VV X 3 ad cs M 10 [(0, .ref (ad 95)), (1, .int w1), (2, .int w2)] [.int x3]
    refine v_if_ne (pc := 10) (tgt := 16) hX dX11_directionOf_10 (by decide) (fun h4 => ?_) (fun h4 => ?_)
    · have h := if_f h h4
      refine v_iload_n (pc := 16) 1 hX dX11_directionOf_16 rfl ?_
      refine v_aload_n (pc := 17) 0 hX dX11_directionOf_17 rfl ?_
      refine v_getR (pc := 18) (t := 96) hX (hcs 95 (Nat.le_of_ble_eq_true rfl) (Nat.le_of_ble_eq_true rfl)) sh_95 fl_11_7 rfl dX11_directionOf_18 ?_
      refine v_iconst (pc := 21) hX dX11_directionOf_21 ic_2 ?_
      refine v_iald (pc := 22) hX (hcs 96 (Nat.le_of_ble_eq_true rfl) (Nat.le_of_ble_eq_true rfl)) sh_96 (ib_2 (by decide)) ix_2 dX11_directionOf_22 ?_
      refine v_icmp_ge (pc := 23) (tgt := 42) hX dX11_directionOf_23 (by decide) (fun h5 => ?_) (fun h5 => ?_)
      · have h := if_t h h5
        refine v_ldc (pc := 42) hX kc_11_151 dX11_directionOf_42 ?_
        obtain rfl := Option.some.inj h
        exact v_iret (pc := 44) hX hR dX11_directionOf_44
      · have h := if_f h h5
        refine v_aload_n (pc := 26) 0 hX dX11_directionOf_26 rfl ?_
        refine v_getR (pc := 27) (t := 96) hX (hcs 95 (Nat.le_of_ble_eq_true rfl) (Nat.le_of_ble_eq_true rfl)) sh_95 fl_11_7 rfl dX11_directionOf_27 ?_
        refine v_bipush (pc := 30) hX dX11_directionOf_30 bp_61 ?_
        refine v_iconst (pc := 32) hX dX11_directionOf_32 ic_4 ?_
        refine v_iload_n (pc := 33) 1 hX dX11_directionOf_33 rfl ?_
        refine v_imul (pc := 34) hX dX11_directionOf_34 ?_
        refine v_iadd (pc := 35) hX dX11_directionOf_35 ?_
        refine v_iload_n (pc := 36) 2 hX dX11_directionOf_36 rfl ?_
        refine v_iadd (pc := 37) hX dX11_directionOf_37 ?_
        obtain ⟨g6, h⟩ := gd_e h
        refine v_iald (pc := 38) hX (hcs 96 (Nat.le_of_ble_eq_true rfl) (Nat.le_of_ble_eq_true rfl)) sh_96 g6 rfl dX11_directionOf_38 ?_
        refine v_goto (pc := 39) (tgt := 44) hX dX11_directionOf_39 (by decide) ?_
        obtain rfl := Option.some.inj h
        exact v_iret (pc := 44) hX hR dX11_directionOf_44
    · have h := if_t h h4
      refine v_ldc (pc := 13) hX kc_11_70 dX11_directionOf_13 ?_
      obtain rfl := Option.some.inj h
      exact v_iret (pc := 15) hX hR dX11_directionOf_15
set_option maxHeartbeats 4000000 in
set_option maxRecDepth 100000 in
theorem c_X11_searchOf {ad : Nat → Nat} {cs : List Nat} (hcs : ∀ k, 95 ≤ k → k < 97 → k ∈ cs) (M : Mm) (w1 : Int32) (q : Int32) (h : fX11_searchOf M w1 = some q) : CT ad cs yX11_searchOf cX11_searchOf 2 (some .int) 1 22 [.ref (ad 95), .int w1] M (some (.int q)) M := by
  refine CT.of RX11 (by decide +kernel) rfl (Nat.le_of_ble_eq_true rfl) (fun X hX hR => ?_)
  unfold fX11_searchOf at h
  show VV X 2 ad cs M 0 [(0, .ref (ad 95)), (1, .int w1)] []
  refine v_iload_n (pc := 0) 1 hX dX11_searchOf_0 rfl ?_
  refine v_iconst (pc := 1) hX dX11_searchOf_1 ic_0 ?_
  refine v_bipush (pc := 2) hX dX11_searchOf_2 bp_9 ?_
  obtain ⟨x2, h1, h⟩ := b1_e h
  refine v_callS (pc := 4) [.int w1, .int 0, .int 9] (some (.int x2)) M hX cv_11_48 (c_X11_in M w1 0 9 x2 h1) rfl rfl ⟨Nat.le_of_ble_eq_true rfl, Nat.le_of_ble_eq_true rfl⟩ (Nat.le_of_ble_eq_true rfl) dX11_searchOf_4 ?_
  show VV X 2 ad cs M 7 [(0, .ref (ad 95)), (1, .int w1)] [.int x2]
  refine v_if_ne (pc := 7) (tgt := 13) hX dX11_searchOf_7 (by decide) (fun h3 => ?_) (fun h3 => ?_)
  · have h := if_f h h3
    refine v_iload_n (pc := 13) 1 hX dX11_searchOf_13 rfl ?_
    by_cases h4 : w1 = 3
    · have h := if_t h h4
      refine v_tableIn (pc := 14) (tgt := 56) (off := 42) hX dX11_searchOf_14 (by rw [h4]; decide) (by rw [h4]; decide) (by rw [h4]; decide) (by decide) ?_
      refine v_iconst (pc := 56) hX dX11_searchOf_56 ic_1 ?_
      refine v_aload_n (pc := 57) 0 hX dX11_searchOf_57 rfl ?_
      refine v_getR (pc := 58) (t := 96) hX (hcs 95 (Nat.le_of_ble_eq_true rfl) (Nat.le_of_ble_eq_true rfl)) sh_95 fl_11_7 rfl dX11_searchOf_58 ?_
      refine v_iconst (pc := 61) hX dX11_searchOf_61 ic_3 ?_
      refine v_iald (pc := 62) hX (hcs 96 (Nat.le_of_ble_eq_true rfl) (Nat.le_of_ble_eq_true rfl)) sh_96 (ib_3 (by decide)) ix_3 dX11_searchOf_62 ?_
      refine v_ishl (pc := 63) hX dX11_searchOf_63 ?_
      obtain rfl := Option.some.inj h
      exact v_iret (pc := 64) hX hR dX11_searchOf_64
    · have h := if_f h h4
      by_cases h5 : w1 = 4
      · have h := if_t h h5
        refine v_tableIn (pc := 14) (tgt := 65) (off := 51) hX dX11_searchOf_14 (by rw [h5]; decide) (by rw [h5]; decide) (by rw [h5]; decide) (by decide) ?_
        refine v_aload_n (pc := 65) 0 hX dX11_searchOf_65 rfl ?_
        refine v_getR (pc := 66) (t := 96) hX (hcs 95 (Nat.le_of_ble_eq_true rfl) (Nat.le_of_ble_eq_true rfl)) sh_95 fl_11_7 rfl dX11_searchOf_66 ?_
        refine v_bipush (pc := 69) hX dX11_searchOf_69 bp_6 ?_
        refine v_iald (pc := 71) hX (hcs 96 (Nat.le_of_ble_eq_true rfl) (Nat.le_of_ble_eq_true rfl)) sh_96 (ib_6 (by decide)) ix_6 dX11_searchOf_71 ?_
        obtain rfl := Option.some.inj h
        exact v_iret (pc := 72) hX hR dX11_searchOf_72
      · have h := if_f h h5
        by_cases h6 : w1 = 5
        · have h := if_t h h6
          refine v_tableIn (pc := 14) (tgt := 73) (off := 59) hX dX11_searchOf_14 (by rw [h6]; decide) (by rw [h6]; decide) (by rw [h6]; decide) (by decide) ?_
          refine v_aload_n (pc := 73) 0 hX dX11_searchOf_73 rfl ?_
          refine v_getR (pc := 74) (t := 96) hX (hcs 95 (Nat.le_of_ble_eq_true rfl) (Nat.le_of_ble_eq_true rfl)) sh_95 fl_11_7 rfl dX11_searchOf_74 ?_
          refine v_bipush (pc := 77) hX dX11_searchOf_77 bp_7 ?_
          refine v_iald (pc := 79) hX (hcs 96 (Nat.le_of_ble_eq_true rfl) (Nat.le_of_ble_eq_true rfl)) sh_96 (ib_7 (by decide)) ix_7 dX11_searchOf_79 ?_
          obtain rfl := Option.some.inj h
          exact v_iret (pc := 80) hX hR dX11_searchOf_80
        · have h := if_f h h6
          by_cases h7 : w1 = 6
          · have h := if_t h h7
            refine v_tableIn (pc := 14) (tgt := 81) (off := 67) hX dX11_searchOf_14 (by rw [h7]; decide) (by rw [h7]; decide) (by rw [h7]; decide) (by decide) ?_
            refine v_aload_n (pc := 81) 0 hX dX11_searchOf_81 rfl ?_
            refine v_getR (pc := 82) (t := 96) hX (hcs 95 (Nat.le_of_ble_eq_true rfl) (Nat.le_of_ble_eq_true rfl)) sh_95 fl_11_7 rfl dX11_searchOf_82 ?_
            refine v_bipush (pc := 85) hX dX11_searchOf_85 bp_8 ?_
            refine v_iald (pc := 87) hX (hcs 96 (Nat.le_of_ble_eq_true rfl) (Nat.le_of_ble_eq_true rfl)) sh_96 (ib_8 (by decide)) ix_8 dX11_searchOf_87 ?_
            obtain rfl := Option.some.inj h
            exact v_iret (pc := 88) hX hR dX11_searchOf_88
          · have h := if_f h h7
            by_cases h8 : w1 = 7
            · have h := if_t h h8
              refine v_tableIn (pc := 14) (tgt := 89) (off := 75) hX dX11_searchOf_14 (by rw [h8]; decide) (by rw [h8]; decide) (by rw [h8]; decide) (by decide) ?_
              refine v_aload_n (pc := 89) 0 hX dX11_searchOf_89 rfl ?_
              refine v_getR (pc := 90) (t := 96) hX (hcs 95 (Nat.le_of_ble_eq_true rfl) (Nat.le_of_ble_eq_true rfl)) sh_95 fl_11_7 rfl dX11_searchOf_90 ?_
              refine v_bipush (pc := 93) hX dX11_searchOf_93 bp_9 ?_
              refine v_iald (pc := 95) hX (hcs 96 (Nat.le_of_ble_eq_true rfl) (Nat.le_of_ble_eq_true rfl)) sh_96 (ib_9 (by decide)) ix_9 dX11_searchOf_95 ?_
              refine v_if_ge (pc := 96) (tgt := 104) hX dX11_searchOf_96 (by decide) (fun h9 => ?_) (fun h9 => ?_)
              · have h := if_t h h9
                refine v_aload_n (pc := 104) 0 hX dX11_searchOf_104 rfl ?_
                refine v_getR (pc := 105) (t := 96) hX (hcs 95 (Nat.le_of_ble_eq_true rfl) (Nat.le_of_ble_eq_true rfl)) sh_95 fl_11_7 rfl dX11_searchOf_105 ?_
                refine v_bipush (pc := 108) hX dX11_searchOf_108 bp_9 ?_
                refine v_iald (pc := 110) hX (hcs 96 (Nat.le_of_ble_eq_true rfl) (Nat.le_of_ble_eq_true rfl)) sh_96 (ib_9 (by decide)) ix_9 dX11_searchOf_110 ?_
                obtain rfl := Option.some.inj h
                exact v_iret (pc := 111) hX hR dX11_searchOf_111
              · have h := if_f h h9
                refine v_ldc (pc := 99) hX kc_11_151 dX11_searchOf_99 ?_
                refine v_goto (pc := 101) (tgt := 111) hX dX11_searchOf_101 (by decide) ?_
                obtain rfl := Option.some.inj h
                exact v_iret (pc := 111) hX hR dX11_searchOf_111
            · have h := if_f h h8
              by_cases h10 : w1 = 8
              · have h := if_t h h10
                refine v_tableIn (pc := 14) (tgt := 112) (off := 98) hX dX11_searchOf_14 (by rw [h10]; decide) (by rw [h10]; decide) (by rw [h10]; decide) (by decide) ?_
                refine v_aload_n (pc := 112) 0 hX dX11_searchOf_112 rfl ?_
                refine v_getR (pc := 113) (t := 96) hX (hcs 95 (Nat.le_of_ble_eq_true rfl) (Nat.le_of_ble_eq_true rfl)) sh_95 fl_11_7 rfl dX11_searchOf_113 ?_
                refine v_bipush (pc := 116) hX dX11_searchOf_116 bp_10 ?_
                refine v_iald (pc := 118) hX (hcs 96 (Nat.le_of_ble_eq_true rfl) (Nat.le_of_ble_eq_true rfl)) sh_96 (ib_10 (by decide)) ix_10 dX11_searchOf_118 ?_
                obtain rfl := Option.some.inj h
                exact v_iret (pc := 119) hX hR dX11_searchOf_119
              · have h := if_f h h10
                by_cases h11 : w1 = 9
                · have h := if_t h h11
                  refine v_tableIn (pc := 14) (tgt := 120) (off := 106) hX dX11_searchOf_14 (by rw [h11]; decide) (by rw [h11]; decide) (by rw [h11]; decide) (by decide) ?_
                  refine v_aload_n (pc := 120) 0 hX dX11_searchOf_120 rfl ?_
                  refine v_getR (pc := 121) (t := 96) hX (hcs 95 (Nat.le_of_ble_eq_true rfl) (Nat.le_of_ble_eq_true rfl)) sh_95 fl_11_7 rfl dX11_searchOf_121 ?_
                  refine v_bipush (pc := 124) hX dX11_searchOf_124 bp_11 ?_
                  refine v_iald (pc := 126) hX (hcs 96 (Nat.le_of_ble_eq_true rfl) (Nat.le_of_ble_eq_true rfl)) sh_96 (ib_11 (by decide)) ix_11 dX11_searchOf_126 ?_
                  obtain rfl := Option.some.inj h
                  exact v_iret (pc := 127) hX hR dX11_searchOf_127
                · have h := if_f h h11
                  have sw14 : w1.toInt < 3 ∨ 9 < w1.toInt := by
                    have q0 := lv_neT h4 (a := 3) (by decide)
                    have q1 := lv_neT h5 (a := 4) (by decide)
                    have q2 := lv_neT h6 (a := 5) (by decide)
                    have q3 := lv_neT h7 (a := 6) (by decide)
                    have q4 := lv_neT h8 (a := 7) (by decide)
                    have q5 := lv_neT h10 (a := 8) (by decide)
                    have q6 := lv_neT h11 (a := 9) (by decide)
                    omega
                  refine v_tableOut (pc := 14) (tgt := 128) hX dX11_searchOf_14 sw14 (by decide) ?_
                  refine v_aload_n (pc := 128) 0 hX dX11_searchOf_128 rfl ?_
                  refine v_getR (pc := 129) (t := 96) hX (hcs 95 (Nat.le_of_ble_eq_true rfl) (Nat.le_of_ble_eq_true rfl)) sh_95 fl_11_7 rfl dX11_searchOf_129 ?_
                  refine v_bipush (pc := 132) hX dX11_searchOf_132 bp_18 ?_
                  refine v_iload_n (pc := 134) 1 hX dX11_searchOf_134 rfl ?_
                  refine v_iadd (pc := 135) hX dX11_searchOf_135 ?_
                  obtain ⟨g12, h⟩ := gd_e h
                  refine v_iald (pc := 136) hX (hcs 96 (Nat.le_of_ble_eq_true rfl) (Nat.le_of_ble_eq_true rfl)) sh_96 g12 rfl dX11_searchOf_136 ?_
                  obtain rfl := Option.some.inj h
                  exact v_iret (pc := 137) hX hR dX11_searchOf_137
  · have h := if_t h h3
    refine v_ldc (pc := 10) hX kc_11_70 dX11_searchOf_10 ?_
    obtain rfl := Option.some.inj h
    exact v_iret (pc := 12) hX hR dX11_searchOf_12
set_option maxHeartbeats 4000000 in
set_option maxRecDepth 100000 in
theorem c_X11_leftAt {ad : Nat → Nat} {cs : List Nat} (hcs : ∀ k, 95 ≤ k → k < 97 → k ∈ cs) (M : Mm) (w1 : Int32) (w2 : Int32) (q : Int32) (h : fX11_leftAt M w1 w2 = some q) : CT ad cs yX11_leftAt cX11_leftAt 3 (some .int) 2 43 [.ref (ad 95), .int w1, .int w2] M (some (.int q)) M := by
  refine CT.of RX11 (by decide +kernel) rfl (Nat.le_of_ble_eq_true rfl) (fun X hX hR => ?_)
  unfold fX11_leftAt at h
  show VV X 3 ad cs M 0 [(0, .ref (ad 95)), (1, .int w1), (2, .int w2)] []
  refine v_iload_n (pc := 0) 1 hX dX11_leftAt_0 rfl ?_
  refine v_if_lt (pc := 1) (tgt := 12) hX dX11_leftAt_1 (by decide) (fun h1 => ?_) (fun h1 => ?_)
  · have h := if_t h h1
    refine v_ldc (pc := 12) hX kc_11_70 dX11_leftAt_12 ?_
    obtain rfl := Option.some.inj h
    exact v_iret (pc := 14) hX hR dX11_leftAt_14
  · have h := if_f h h1
    refine v_aload_n (pc := 4) 0 hX dX11_leftAt_4 rfl ?_
    refine v_iload_n (pc := 5) 2 hX dX11_leftAt_5 rfl ?_
    obtain ⟨x3, h2, h⟩ := b1_e h
    refine v_callV (pc := 6) [.int w2] (some (.int x3)) M hX cv_11_87 (c_X11_isVariable (sub_cs hcs (Nat.le_of_ble_eq_true rfl) (Nat.le_of_ble_eq_true rfl)) M w2 x3 h2) (hcs 95 (Nat.le_of_ble_eq_true rfl) (Nat.le_of_ble_eq_true rfl)) sh_95 rfl rfl rfl ⟨Nat.le_of_ble_eq_true rfl, Nat.le_of_ble_eq_true rfl⟩ (Nat.le_of_ble_eq_true rfl) dX11_leftAt_6 ?_
    show VV X 3 ad cs M 9 [(0, .ref (ad 95)), (1, .int w1), (2, .int w2)] [.int x3]
    refine v_if_ne (pc := 9) (tgt := 15) hX dX11_leftAt_9 (by decide) (fun h4 => ?_) (fun h4 => ?_)
    · have h := if_f h h4
      refine v_iload_n (pc := 15) 1 hX dX11_leftAt_15 rfl ?_
      refine v_aload_n (pc := 16) 0 hX dX11_leftAt_16 rfl ?_
      refine v_getR (pc := 17) (t := 96) hX (hcs 95 (Nat.le_of_ble_eq_true rfl) (Nat.le_of_ble_eq_true rfl)) sh_95 fl_11_7 rfl dX11_leftAt_17 ?_
      refine v_bipush (pc := 20) hX dX11_leftAt_20 bp_10 ?_
      refine v_iald (pc := 22) hX (hcs 96 (Nat.le_of_ble_eq_true rfl) (Nat.le_of_ble_eq_true rfl)) sh_96 (ib_10 (by decide)) ix_10 dX11_leftAt_22 ?_
      refine v_icmp_ge (pc := 23) (tgt := 42) hX dX11_leftAt_23 (by decide) (fun h5 => ?_) (fun h5 => ?_)
      · have h := if_t h h5
        refine v_ldc (pc := 42) hX kc_11_151 dX11_leftAt_42 ?_
        obtain rfl := Option.some.inj h
        exact v_iret (pc := 44) hX hR dX11_leftAt_44
      · have h := if_f h h5
        refine v_aload_n (pc := 26) 0 hX dX11_leftAt_26 rfl ?_
        refine v_getR (pc := 27) (t := 96) hX (hcs 95 (Nat.le_of_ble_eq_true rfl) (Nat.le_of_ble_eq_true rfl)) sh_95 fl_11_7 rfl dX11_leftAt_27 ?_
        refine v_bipush (pc := 30) hX dX11_leftAt_30 bp_93 ?_
        refine v_iconst (pc := 32) hX dX11_leftAt_32 ic_3 ?_
        refine v_iload_n (pc := 33) 1 hX dX11_leftAt_33 rfl ?_
        refine v_imul (pc := 34) hX dX11_leftAt_34 ?_
        refine v_iadd (pc := 35) hX dX11_leftAt_35 ?_
        refine v_iload_n (pc := 36) 2 hX dX11_leftAt_36 rfl ?_
        refine v_iadd (pc := 37) hX dX11_leftAt_37 ?_
        obtain ⟨g6, h⟩ := gd_e h
        refine v_iald (pc := 38) hX (hcs 96 (Nat.le_of_ble_eq_true rfl) (Nat.le_of_ble_eq_true rfl)) sh_96 g6 rfl dX11_leftAt_38 ?_
        refine v_goto (pc := 39) (tgt := 44) hX dX11_leftAt_39 (by decide) ?_
        obtain rfl := Option.some.inj h
        exact v_iret (pc := 44) hX hR dX11_leftAt_44
    · have h := if_t h h4
      refine v_ldc (pc := 12) hX kc_11_70 dX11_leftAt_12 ?_
      obtain rfl := Option.some.inj h
      exact v_iret (pc := 14) hX hR dX11_leftAt_14
set_option maxHeartbeats 4000000 in
set_option maxRecDepth 100000 in
theorem c_X11_count {ad : Nat → Nat} {cs : List Nat} (hcs : ∀ k, 95 ≤ k → k < 97 → k ∈ cs) (M : Mm) (w1 : Int32) (q : Int32) (h : fX11_count M w1 = some q) : CT ad cs yX11_count cX11_count 4 (some .int) 2 43 [.ref (ad 95), .int w1] M (some (.int q)) M := by
  refine CT.of RX11 (by decide +kernel) rfl (Nat.le_of_ble_eq_true rfl) (fun X hX hR => ?_)
  unfold fX11_count at h
  show VV X 4 ad cs M 0 [(0, .ref (ad 95)), (1, .int w1)] []
  refine v_iload_n (pc := 0) 1 hX dX11_count_0 rfl ?_
  refine v_bipush (pc := 1) hX dX11_count_1 bp_10 ?_
  refine v_icmp_lt (pc := 3) (tgt := 64) hX dX11_count_3 (by decide) (fun h1 => ?_) (fun h1 => ?_)
  · have h := if_t h h1
    refine v_iload_n (pc := 64) 1 hX dX11_count_64 rfl ?_
    by_cases h2 : w1 = 0
    · have h := if_t h h2
      refine v_tableIn (pc := 65) (tgt := 112) (off := 47) hX dX11_count_65 (by rw [h2]; decide) (by rw [h2]; decide) (by rw [h2]; decide) (by decide) ?_
      refine v_aload_n (pc := 112) 0 hX dX11_count_112 rfl ?_
      refine v_getR (pc := 113) (t := 96) hX (hcs 95 (Nat.le_of_ble_eq_true rfl) (Nat.le_of_ble_eq_true rfl)) sh_95 fl_11_7 rfl dX11_count_113 ?_
      refine v_iconst (pc := 116) hX dX11_count_116 ic_0 ?_
      refine v_iald (pc := 117) hX (hcs 96 (Nat.le_of_ble_eq_true rfl) (Nat.le_of_ble_eq_true rfl)) sh_96 (ib_0 (by decide)) ix_0 dX11_count_117 ?_
      obtain rfl := Option.some.inj h
      exact v_iret (pc := 118) hX hR dX11_count_118
    · have h := if_f h h2
      by_cases h3 : w1 = 1
      · have h := if_t h h3
        refine v_tableIn (pc := 65) (tgt := 119) (off := 54) hX dX11_count_65 (by rw [h3]; decide) (by rw [h3]; decide) (by rw [h3]; decide) (by decide) ?_
        refine v_aload_n (pc := 119) 0 hX dX11_count_119 rfl ?_
        refine v_getR (pc := 120) (t := 96) hX (hcs 95 (Nat.le_of_ble_eq_true rfl) (Nat.le_of_ble_eq_true rfl)) sh_95 fl_11_7 rfl dX11_count_120 ?_
        refine v_iconst (pc := 123) hX dX11_count_123 ic_1 ?_
        refine v_iald (pc := 124) hX (hcs 96 (Nat.le_of_ble_eq_true rfl) (Nat.le_of_ble_eq_true rfl)) sh_96 (ib_1 (by decide)) ix_1 dX11_count_124 ?_
        obtain rfl := Option.some.inj h
        exact v_iret (pc := 125) hX hR dX11_count_125
      · have h := if_f h h3
        by_cases h4 : w1 = 2
        · have h := if_t h h4
          refine v_tableIn (pc := 65) (tgt := 126) (off := 61) hX dX11_count_65 (by rw [h4]; decide) (by rw [h4]; decide) (by rw [h4]; decide) (by decide) ?_
          refine v_aload_n (pc := 126) 0 hX dX11_count_126 rfl ?_
          refine v_getR (pc := 127) (t := 96) hX (hcs 95 (Nat.le_of_ble_eq_true rfl) (Nat.le_of_ble_eq_true rfl)) sh_95 fl_11_7 rfl dX11_count_127 ?_
          refine v_iconst (pc := 130) hX dX11_count_130 ic_2 ?_
          refine v_iald (pc := 131) hX (hcs 96 (Nat.le_of_ble_eq_true rfl) (Nat.le_of_ble_eq_true rfl)) sh_96 (ib_2 (by decide)) ix_2 dX11_count_131 ?_
          obtain rfl := Option.some.inj h
          exact v_iret (pc := 132) hX hR dX11_count_132
        · have h := if_f h h4
          by_cases h5 : w1 = 3
          · have h := if_t h h5
            refine v_tableIn (pc := 65) (tgt := 133) (off := 68) hX dX11_count_65 (by rw [h5]; decide) (by rw [h5]; decide) (by rw [h5]; decide) (by decide) ?_
            refine v_aload_n (pc := 133) 0 hX dX11_count_133 rfl ?_
            refine v_getR (pc := 134) (t := 96) hX (hcs 95 (Nat.le_of_ble_eq_true rfl) (Nat.le_of_ble_eq_true rfl)) sh_95 fl_11_7 rfl dX11_count_134 ?_
            refine v_iconst (pc := 137) hX dX11_count_137 ic_4 ?_
            refine v_iald (pc := 138) hX (hcs 96 (Nat.le_of_ble_eq_true rfl) (Nat.le_of_ble_eq_true rfl)) sh_96 (ib_4 (by decide)) ix_4 dX11_count_138 ?_
            obtain rfl := Option.some.inj h
            exact v_iret (pc := 139) hX hR dX11_count_139
          · have h := if_f h h5
            by_cases h6 : w1 = 4
            · have h := if_t h h6
              refine v_tableIn (pc := 65) (tgt := 140) (off := 75) hX dX11_count_65 (by rw [h6]; decide) (by rw [h6]; decide) (by rw [h6]; decide) (by decide) ?_
              refine v_aload_n (pc := 140) 0 hX dX11_count_140 rfl ?_
              refine v_getR (pc := 141) (t := 96) hX (hcs 95 (Nat.le_of_ble_eq_true rfl) (Nat.le_of_ble_eq_true rfl)) sh_95 fl_11_7 rfl dX11_count_141 ?_
              refine v_iconst (pc := 144) hX dX11_count_144 ic_5 ?_
              refine v_iald (pc := 145) hX (hcs 96 (Nat.le_of_ble_eq_true rfl) (Nat.le_of_ble_eq_true rfl)) sh_96 (ib_5 (by decide)) ix_5 dX11_count_145 ?_
              obtain rfl := Option.some.inj h
              exact v_iret (pc := 146) hX hR dX11_count_146
            · have h := if_f h h6
              by_cases h7 : w1 = 5
              · have h := if_t h h7
                refine v_tableIn (pc := 65) (tgt := 147) (off := 82) hX dX11_count_65 (by rw [h7]; decide) (by rw [h7]; decide) (by rw [h7]; decide) (by decide) ?_
                refine v_aload_n (pc := 147) 0 hX dX11_count_147 rfl ?_
                refine v_getI (pc := 148) hX (hcs 95 (Nat.le_of_ble_eq_true rfl) (Nat.le_of_ble_eq_true rfl)) sh_95 fl_11_36 rfl dX11_count_148 ?_
                obtain rfl := Option.some.inj h
                exact v_iret (pc := 151) hX hR dX11_count_151
              · have h := if_f h h7
                by_cases h8 : w1 = 6
                · have h := if_t h h8
                  refine v_tableIn (pc := 65) (tgt := 152) (off := 87) hX dX11_count_65 (by rw [h8]; decide) (by rw [h8]; decide) (by rw [h8]; decide) (by decide) ?_
                  refine v_aload_n (pc := 152) 0 hX dX11_count_152 rfl ?_
                  refine v_getI (pc := 153) hX (hcs 95 (Nat.le_of_ble_eq_true rfl) (Nat.le_of_ble_eq_true rfl)) sh_95 fl_11_152 rfl dX11_count_153 ?_
                  obtain rfl := Option.some.inj h
                  exact v_iret (pc := 156) hX hR dX11_count_156
                · have h := if_f h h8
                  by_cases h9 : w1 = 7
                  · have h := if_t h h9
                    refine v_tableIn (pc := 65) (tgt := 157) (off := 92) hX dX11_count_65 (by rw [h9]; decide) (by rw [h9]; decide) (by rw [h9]; decide) (by decide) ?_
                    refine v_aload_n (pc := 157) 0 hX dX11_count_157 rfl ?_
                    refine v_getI (pc := 158) hX (hcs 95 (Nat.le_of_ble_eq_true rfl) (Nat.le_of_ble_eq_true rfl)) sh_95 fl_11_41 rfl dX11_count_158 ?_
                    refine v_if_eq (pc := 161) (tgt := 168) hX dX11_count_161 (by decide) (fun h10 => ?_) (fun h10 => ?_)
                    · have h := if_t h h10
                      refine v_iconst (pc := 168) hX dX11_count_168 ic_0 ?_
                      obtain rfl := Option.some.inj h
                      exact v_iret (pc := 169) hX hR dX11_count_169
                    · have h := if_f h h10
                      refine v_iconst (pc := 164) hX dX11_count_164 ic_1 ?_
                      refine v_goto (pc := 165) (tgt := 169) hX dX11_count_165 (by decide) ?_
                      obtain rfl := Option.some.inj h
                      exact v_iret (pc := 169) hX hR dX11_count_169
                  · have h := if_f h h9
                    have sw65 : w1.toInt < 0 ∨ 7 < w1.toInt := by
                      have q0 := lv_neT h2 (a := 0) (by decide)
                      have q1 := lv_neT h3 (a := 1) (by decide)
                      have q2 := lv_neT h4 (a := 2) (by decide)
                      have q3 := lv_neT h5 (a := 3) (by decide)
                      have q4 := lv_neT h6 (a := 4) (by decide)
                      have q5 := lv_neT h7 (a := 5) (by decide)
                      have q6 := lv_neT h8 (a := 6) (by decide)
                      have q7 := lv_neT h9 (a := 7) (by decide)
                      omega
                    refine v_tableOut (pc := 65) (tgt := 170) hX dX11_count_65 sw65 (by decide) ?_
                    refine v_ldc (pc := 170) hX kc_11_70 dX11_count_170 ?_
                    obtain rfl := Option.some.inj h
                    exact v_iret (pc := 172) hX hR dX11_count_172
  · have h := if_f h h1
    refine v_iload_n (pc := 6) 1 hX dX11_count_6 rfl ?_
    refine v_bipush (pc := 7) hX dX11_count_7 bp_20 ?_
    obtain ⟨k11, ek11, h⟩ := bd_e h
    have K12 : ∀ (x13 : Int32), k11 x13 = some q → VV X 4 ad cs M 17 [(0, .ref (ad 95)), (1, .int w1)] [.int x13] := by
      intro x13 h
      subst ek11
      refine v_istore_n (pc := 17) [(2, .int x13), (0, .ref (ad 95)), (1, .int w1)] hX dX11_count_17 (by decide) rfl ?_
      refine v_iload_n (pc := 18) 2 hX dX11_count_18 rfl ?_
      refine v_iload_n (pc := 19) 0 hX dX11_count_19 rfl ?_
      obtain ⟨k14, ek14, h⟩ := bd_e h
      have K15 : ∀ (x16 : Int32), k14 x16 = some q → VV X 4 ad cs M 30 [(0, .ref (ad 95)), (2, .int x13)] [.int x16, .int w1] := by
        intro x16 h
        subst ek14
        refine v_isub (pc := 30) hX dX11_count_30 ?_
        obtain ⟨x17, ex17, h⟩ := bd_e h
        refine v_top ex17 ?_
        refine v_istore_n (pc := 31) [(3, .int x17), (0, .ref (ad 95)), (2, .int x13)] hX dX11_count_31 (by decide) rfl ?_
        refine v_aload_n (pc := 32) 1 hX dX11_count_32 rfl ?_
        refine v_iload_n (pc := 33) 0 hX dX11_count_33 rfl ?_
        obtain ⟨x19, h18, h⟩ := b1_e h
        refine v_callV (pc := 34) [.int x17] (some (.int x19)) M hX cv_11_87 (c_X11_isVariable (sub_cs hcs (Nat.le_of_ble_eq_true rfl) (Nat.le_of_ble_eq_true rfl)) M x17 x19 h18) (hcs 95 (Nat.le_of_ble_eq_true rfl) (Nat.le_of_ble_eq_true rfl)) sh_95 rfl rfl rfl ⟨Nat.le_of_ble_eq_true rfl, Nat.le_of_ble_eq_true rfl⟩ (Nat.le_of_ble_eq_true rfl) dX11_count_34 ?_
        show VV X 4 ad cs M 37 [(3, .int x17), (0, .ref (ad 95)), (2, .int x13)] [.int x19]
        refine v_if_eq (pc := 37) (tgt := 61) hX dX11_count_37 (by decide) (fun h20 => ?_) (fun h20 => ?_)
        · have h := if_t h h20
          refine v_ldc (pc := 61) hX kc_11_70 dX11_count_61 ?_
          obtain rfl := Option.some.inj h
          exact v_iret (pc := 63) hX hR dX11_count_63
        · have h := if_f h h20
          refine v_aload_n (pc := 40) 1 hX dX11_count_40 rfl ?_
          refine v_getR (pc := 41) (t := 96) hX (hcs 95 (Nat.le_of_ble_eq_true rfl) (Nat.le_of_ble_eq_true rfl)) sh_95 fl_11_7 rfl dX11_count_41 ?_
          refine v_iload_n (pc := 44) 2 hX dX11_count_44 rfl ?_
          refine v_if_eq (pc := 45) (tgt := 53) hX dX11_count_45 (by decide) (fun h21 => ?_) (fun h21 => ?_)
          · have h := if_t h h21
            refine v_bipush (pc := 53) hX dX11_count_53 bp_12 ?_
            refine v_iload_n (pc := 55) 0 hX dX11_count_55 rfl ?_
            refine v_iadd (pc := 56) hX dX11_count_56 ?_
            obtain ⟨g22, h⟩ := gd_e h
            refine v_iald (pc := 57) hX (hcs 96 (Nat.le_of_ble_eq_true rfl) (Nat.le_of_ble_eq_true rfl)) sh_96 g22 rfl dX11_count_57 ?_
            refine v_goto (pc := 58) (tgt := 63) hX dX11_count_58 (by decide) ?_
            obtain rfl := Option.some.inj h
            exact v_iret (pc := 63) hX hR dX11_count_63
          · have h := if_f h h21
            refine v_bipush (pc := 48) hX dX11_count_48 bp_15 ?_
            refine v_goto (pc := 50) (tgt := 55) hX dX11_count_50 (by decide) ?_
            refine v_iload_n (pc := 55) 0 hX dX11_count_55 rfl ?_
            refine v_iadd (pc := 56) hX dX11_count_56 ?_
            obtain ⟨g23, h⟩ := gd_e h
            refine v_iald (pc := 57) hX (hcs 96 (Nat.le_of_ble_eq_true rfl) (Nat.le_of_ble_eq_true rfl)) sh_96 g23 rfl dX11_count_57 ?_
            refine v_goto (pc := 58) (tgt := 63) hX dX11_count_58 (by decide) ?_
            obtain rfl := Option.some.inj h
            exact v_iret (pc := 63) hX hR dX11_count_63
      refine v_if_eq (pc := 20) (tgt := 28) hX dX11_count_20 (by decide) (fun h24 => ?_) (fun h24 => ?_)
      · have h := if_t h h24
        refine v_bipush (pc := 28) hX dX11_count_28 bp_10 ?_
        exact v_sub [1, 0] rfl (K15 10 h)
      · have h := if_f h h24
        refine v_bipush (pc := 23) hX dX11_count_23 bp_20 ?_
        refine v_goto (pc := 25) (tgt := 30) hX dX11_count_25 (by decide) ?_
        exact v_sub [1, 0] rfl (K15 20 h)
    refine v_icmp_lt (pc := 9) (tgt := 16) hX dX11_count_9 (by decide) (fun h25 => ?_) (fun h25 => ?_)
    · have h := if_t h h25
      refine v_iconst (pc := 16) hX dX11_count_16 ic_0 ?_
      exact v_sub [0, 1] rfl (K12 0 h)
    · have h := if_f h h25
      refine v_iconst (pc := 12) hX dX11_count_12 ic_1 ?_
      refine v_goto (pc := 13) (tgt := 17) hX dX11_count_13 (by decide) ?_
      exact v_sub [0, 1] rfl (K12 1 h)
