set_option maxHeartbeats 4000000 in
set_option maxRecDepth 100000 in
theorem c_X6_canPoll {ad : Nat → Nat} {cs : List Nat} (hcs : ∀ k, 1 ≤ k → k < 13 → k ∈ cs) (M : Mm) (q : Int32) (h : fX6_canPoll M = some q) : CT ad cs yX6_canPoll cX6_canPoll 1 (some .boolean) 3 65 [.ref (ad 1)] M (some (.int q)) M := by
  refine CT.of RX6 (by decide +kernel) rfl (Nat.le_of_ble_eq_true rfl) (fun X hX hR => ?_)
  unfold fX6_canPoll at h
  show VV X 1 ad cs M 0 [(0, .ref (ad 1))] []
  refine v_aload_n (pc := 0) 0 hX dX6_canPoll_0 rfl ?_
  obtain ⟨x2, h1, h⟩ := b1_e h
  refine v_callV (pc := 1) [] (some (.int x2)) M hX cv_6_86 (c_X6_placeIsAllowed (sub_cs hcs (Nat.le_of_ble_eq_true rfl) (Nat.le_of_ble_eq_true rfl)) M x2 h1) (hcs 1 (Nat.le_of_ble_eq_true rfl) (Nat.le_of_ble_eq_true rfl)) sh_1 rfl rfl rfl ⟨Nat.le_of_ble_eq_true rfl, Nat.le_of_ble_eq_true rfl⟩ (Nat.le_of_ble_eq_true rfl) dX6_canPoll_1 ?_
  show VV X 1 ad cs M 4 [(0, .ref (ad 1))] [.int x2]
  refine v_if_eq (pc := 4) (tgt := 21) hX dX6_canPoll_4 (by decide) (fun h3 => ?_) (fun h3 => ?_)
  · have h := if_t h h3
    refine v_iconst (pc := 21) hX dX6_canPoll_21 ic_0 ?_
    obtain rfl := Option.some.inj h
    exact v_zret (pc := 22) hX hR (Or.inl rfl) dX6_canPoll_22
  · have h := if_f h h3
    refine v_aload_n (pc := 7) 0 hX dX6_canPoll_7 rfl ?_
    refine v_getR (pc := 8) (t := 8) hX (hcs 1 (Nat.le_of_ble_eq_true rfl) (Nat.le_of_ble_eq_true rfl)) sh_1 fl_6_28 rfl dX6_canPoll_8 ?_
    refine v_getI (pc := 11) hX (hcs 8 (Nat.le_of_ble_eq_true rfl) (Nat.le_of_ble_eq_true rfl)) sh_8 fl_6_90 rfl dX6_canPoll_11 ?_
    refine v_if_le (pc := 14) (tgt := 21) hX dX6_canPoll_14 (by decide) (fun h4 => ?_) (fun h4 => ?_)
    · have h := if_t h h4
      refine v_iconst (pc := 21) hX dX6_canPoll_21 ic_0 ?_
      obtain rfl := Option.some.inj h
      exact v_zret (pc := 22) hX hR (Or.inl rfl) dX6_canPoll_22
    · have h := if_f h h4
      refine v_iconst (pc := 17) hX dX6_canPoll_17 ic_1 ?_
      refine v_goto (pc := 18) (tgt := 22) hX dX6_canPoll_18 (by decide) ?_
      obtain rfl := Option.some.inj h
      exact v_zret (pc := 22) hX hR (Or.inr rfl) dX6_canPoll_22
set_option maxHeartbeats 4000000 in
set_option maxRecDepth 100000 in
theorem c_X6_valueHere {ad : Nat → Nat} {cs : List Nat} (hcs : ∀ k, 1 ≤ k → k < 13 → k ∈ cs) (M : Mm) (q : Int64) (h : fX6_valueHere M = some q) : CT ad cs yX6_valueHere cX6_valueHere 1 (some .long) 2 53 [.ref (ad 1)] M (some (.long q)) M := by
  refine CT.of RX6 (by decide +kernel) rfl (Nat.le_of_ble_eq_true rfl) (fun X hX hR => ?_)
  unfold fX6_valueHere at h
  show VV X 1 ad cs M 0 [(0, .ref (ad 1))] []
  refine v_aload_n (pc := 0) 0 hX dX6_valueHere_0 rfl ?_
  refine v_getR (pc := 1) (t := 2) hX (hcs 1 (Nat.le_of_ble_eq_true rfl) (Nat.le_of_ble_eq_true rfl)) sh_1 fl_6_12 rfl dX6_valueHere_1 ?_
  refine v_aload_n (pc := 4) 0 hX dX6_valueHere_4 rfl ?_
  refine v_getR (pc := 5) (t := 11) hX (hcs 1 (Nat.le_of_ble_eq_true rfl) (Nat.le_of_ble_eq_true rfl)) sh_1 fl_6_35 rfl dX6_valueHere_5 ?_
  refine v_getR (pc := 8) (t := 12) hX (hcs 11 (Nat.le_of_ble_eq_true rfl) (Nat.le_of_ble_eq_true rfl)) sh_11 fl_6_79 rfl dX6_valueHere_8 ?_
  refine v_iconst (pc := 11) hX dX6_valueHere_11 ic_0 ?_
  refine v_iald (pc := 12) hX (hcs 12 (Nat.le_of_ble_eq_true rfl) (Nat.le_of_ble_eq_true rfl)) sh_12 (ib_0 (by decide)) ix_0 dX6_valueHere_12 ?_
  refine v_aload_n (pc := 13) 0 hX dX6_valueHere_13 rfl ?_
  refine v_getR (pc := 14) (t := 11) hX (hcs 1 (Nat.le_of_ble_eq_true rfl) (Nat.le_of_ble_eq_true rfl)) sh_1 fl_6_35 rfl dX6_valueHere_14 ?_
  refine v_getR (pc := 17) (t := 12) hX (hcs 11 (Nat.le_of_ble_eq_true rfl) (Nat.le_of_ble_eq_true rfl)) sh_11 fl_6_79 rfl dX6_valueHere_17 ?_
  refine v_iconst (pc := 20) hX dX6_valueHere_20 ic_1 ?_
  refine v_iald (pc := 21) hX (hcs 12 (Nat.le_of_ble_eq_true rfl) (Nat.le_of_ble_eq_true rfl)) sh_12 (ib_1 (by decide)) ix_1 dX6_valueHere_21 ?_
  refine v_aload_n (pc := 22) 0 hX dX6_valueHere_22 rfl ?_
  refine v_getR (pc := 23) (t := 11) hX (hcs 1 (Nat.le_of_ble_eq_true rfl) (Nat.le_of_ble_eq_true rfl)) sh_1 fl_6_35 rfl dX6_valueHere_23 ?_
  refine v_getR (pc := 26) (t := 12) hX (hcs 11 (Nat.le_of_ble_eq_true rfl) (Nat.le_of_ble_eq_true rfl)) sh_11 fl_6_79 rfl dX6_valueHere_26 ?_
  refine v_iconst (pc := 29) hX dX6_valueHere_29 ic_2 ?_
  refine v_iald (pc := 30) hX (hcs 12 (Nat.le_of_ble_eq_true rfl) (Nat.le_of_ble_eq_true rfl)) sh_12 (ib_2 (by decide)) ix_2 dX6_valueHere_30 ?_
  refine v_iconst (pc := 31) hX dX6_valueHere_31 ic_4 ?_
  obtain ⟨y2, h1, h⟩ := b1_e h
  refine v_callV (pc := 32) [.int (M.1 12 0), .int (M.1 12 1), .int (M.1 12 2), .int 4] (some (.long y2)) M hX cv_6_91 (c_X7_sumAt (sub_cs hcs (Nat.le_of_ble_eq_true rfl) (Nat.le_of_ble_eq_true rfl)) M (M.1 12 0) (M.1 12 1) (M.1 12 2) 4 y2 h1) (hcs 2 (Nat.le_of_ble_eq_true rfl) (Nat.le_of_ble_eq_true rfl)) sh_2 rfl rfl rfl ⟨Nat.le_of_ble_eq_true rfl, Nat.le_of_ble_eq_true rfl⟩ (Nat.le_of_ble_eq_true rfl) dX6_valueHere_32 ?_
  show VV X 1 ad cs M 35 [(0, .ref (ad 1))] [.long y2]
  obtain rfl := Option.some.inj h
  exact v_lret (pc := 35) hX hR dX6_valueHere_35
set_option maxHeartbeats 4000000 in
set_option maxRecDepth 100000 in
theorem c_X6_trialNumber {ad : Nat → Nat} {cs : List Nat} (hcs : ∀ k, 1 ≤ k → k < 13 → k ∈ cs) (M : Mm) (w1 : Int32) (w2 : Int32) (w3 : Int32) (q : Int32) (h : fX6_trialNumber M w1 w2 w3 = some q) : CT ad cs yX6_trialNumber cX6_trialNumber 4 (some .int) 0 0 [.ref (ad 1), .int w1, .int w2, .int w3] M (some (.int q)) M := by
  refine CT.of RX6 (by decide +kernel) rfl (Nat.le_of_ble_eq_true rfl) (fun X hX hR => ?_)
  unfold fX6_trialNumber at h
  show VV X 4 ad cs M 0 [(0, .ref (ad 1)), (1, .int w1), (2, .int w2), (3, .int w3)] []
  refine v_aload_n (pc := 0) 0 hX dX6_trialNumber_0 rfl ?_
  refine v_getR (pc := 1) (t := 11) hX (hcs 1 (Nat.le_of_ble_eq_true rfl) (Nat.le_of_ble_eq_true rfl)) sh_1 fl_6_35 rfl dX6_trialNumber_1 ?_
  refine v_getR (pc := 4) (t := 12) hX (hcs 11 (Nat.le_of_ble_eq_true rfl) (Nat.le_of_ble_eq_true rfl)) sh_11 fl_6_79 rfl dX6_trialNumber_4 ?_
  refine v_iload_n (pc := 7) 2 hX dX6_trialNumber_7 rfl ?_
  obtain ⟨g1, h⟩ := gd_e h
  refine v_iald (pc := 8) hX (hcs 12 (Nat.le_of_ble_eq_true rfl) (Nat.le_of_ble_eq_true rfl)) sh_12 g1 rfl dX6_trialNumber_8 ?_
  refine v_iload_n (pc := 9) 3 hX dX6_trialNumber_9 rfl ?_
  refine v_aload_n (pc := 10) 0 hX dX6_trialNumber_10 rfl ?_
  refine v_getR (pc := 11) (t := 8) hX (hcs 1 (Nat.le_of_ble_eq_true rfl) (Nat.le_of_ble_eq_true rfl)) sh_1 fl_6_28 rfl dX6_trialNumber_11 ?_
  refine v_getR (pc := 14) (t := 9) hX (hcs 8 (Nat.le_of_ble_eq_true rfl) (Nat.le_of_ble_eq_true rfl)) sh_8 fl_6_95 rfl dX6_trialNumber_14 ?_
  refine v_iconst (pc := 17) hX dX6_trialNumber_17 ic_3 ?_
  refine v_iload_n (pc := 18) 1 hX dX6_trialNumber_18 rfl ?_
  refine v_imul (pc := 19) hX dX6_trialNumber_19 ?_
  refine v_iload_n (pc := 20) 2 hX dX6_trialNumber_20 rfl ?_
  refine v_iadd (pc := 21) hX dX6_trialNumber_21 ?_
  obtain ⟨g2, h⟩ := gd_e h
  refine v_iald (pc := 22) hX (hcs 9 (Nat.le_of_ble_eq_true rfl) (Nat.le_of_ble_eq_true rfl)) sh_9 g2 rfl dX6_trialNumber_22 ?_
  refine v_imul (pc := 23) hX dX6_trialNumber_23 ?_
  refine v_iadd (pc := 24) hX dX6_trialNumber_24 ?_
  obtain rfl := Option.some.inj h
  exact v_iret (pc := 25) hX hR dX6_trialNumber_25
set_option maxHeartbeats 4000000 in
set_option maxRecDepth 100000 in
theorem c_X6_rankOf {ad : Nat → Nat} {cs : List Nat} (hcs : ∀ k, 1 ≤ k → k < 12 → k ∈ cs) (M : Mm) (w1 : Int32) (w2 : Int32) (w3 : Int32) (w4 : Int32) (q : Int64) (h : fX6_rankOf M w1 w2 w3 w4 = some q) : CT ad cs yX6_rankOf cX6_rankOf 5 (some .long) 2 53 [.ref (ad 1), .int w1, .int w2, .int w3, .int w4] M (some (.long q)) M := by
  refine CT.of RX6 (by decide +kernel) rfl (Nat.le_of_ble_eq_true rfl) (fun X hX hR => ?_)
  unfold fX6_rankOf at h
  show VV X 5 ad cs M 0 [(0, .ref (ad 1)), (1, .int w1), (2, .int w2), (3, .int w3), (4, .int w4)] []
  refine v_aload_n (pc := 0) 0 hX dX6_rankOf_0 rfl ?_
  refine v_getI (pc := 1) hX (hcs 1 (Nat.le_of_ble_eq_true rfl) (Nat.le_of_ble_eq_true rfl)) sh_1 fl_6_43 rfl dX6_rankOf_1 ?_
  by_cases h1 : (M.1 1 1) = 1
  · have h := if_t h h1
    refine v_lookup (pc := 4) (tgt := 32) (off := 28) hX dX6_rankOf_4 (by decide) (by rw [h1]; decide) (by decide) ?_
    refine v_iload_n (pc := 32) 1 hX dX6_rankOf_32 rfl ?_
    refine v_aload_n (pc := 33) 0 hX dX6_rankOf_33 rfl ?_
    refine v_getR (pc := 34) (t := 11) hX (hcs 1 (Nat.le_of_ble_eq_true rfl) (Nat.le_of_ble_eq_true rfl)) sh_1 fl_6_35 rfl dX6_rankOf_34 ?_
    refine v_getI (pc := 37) hX (hcs 11 (Nat.le_of_ble_eq_true rfl) (Nat.le_of_ble_eq_true rfl)) sh_11 fl_6_98 rfl dX6_rankOf_37 ?_
    refine v_icmp_ne (pc := 40) (tgt := 47) hX dX6_rankOf_40 (by decide) (fun h2 => ?_) (fun h2 => ?_)
    · have h := if_f h h2
      refine v_lconst (v := 1) (pc := 47) hX dX6_rankOf_47 (by decide) ?_
      obtain rfl := Option.some.inj h
      exact v_lret (pc := 48) hX hR dX6_rankOf_48
    · have h := if_t h h2
      refine v_lconst (v := 0) (pc := 43) hX dX6_rankOf_43 (by decide) ?_
      refine v_goto (pc := 44) (tgt := 48) hX dX6_rankOf_44 (by decide) ?_
      obtain rfl := Option.some.inj h
      exact v_lret (pc := 48) hX hR dX6_rankOf_48
  · have h := if_f h h1
    by_cases h3 : (M.1 1 1) = 2
    · have h := if_t h h3
      refine v_lookup (pc := 4) (tgt := 49) (off := 45) hX dX6_rankOf_4 (by decide) (by rw [h3]; decide) (by decide) ?_
      refine v_aload_n (pc := 49) 0 hX dX6_rankOf_49 rfl ?_
      refine v_getR (pc := 50) (t := 2) hX (hcs 1 (Nat.le_of_ble_eq_true rfl) (Nat.le_of_ble_eq_true rfl)) sh_1 fl_6_12 rfl dX6_rankOf_50 ?_
      refine v_iload_n (pc := 53) 2 hX dX6_rankOf_53 rfl ?_
      refine v_iload_n (pc := 54) 3 hX dX6_rankOf_54 rfl ?_
      refine v_iload (pc := 55) 4 hX dX6_rankOf_55 rfl ?_
      refine v_iconst (pc := 57) hX dX6_rankOf_57 ic_2 ?_
      obtain ⟨y5, h4, h⟩ := b1_e h
      refine v_callV (pc := 58) [.int w2, .int w3, .int w4, .int 2] (some (.long y5)) M hX cv_6_91 (c_X7_sumAt (sub_cs hcs (Nat.le_of_ble_eq_true rfl) (Nat.le_of_ble_eq_true rfl)) M w2 w3 w4 2 y5 h4) (hcs 2 (Nat.le_of_ble_eq_true rfl) (Nat.le_of_ble_eq_true rfl)) sh_2 rfl rfl rfl ⟨Nat.le_of_ble_eq_true rfl, Nat.le_of_ble_eq_true rfl⟩ (Nat.le_of_ble_eq_true rfl) dX6_rankOf_58 ?_
      show VV X 5 ad cs M 61 [(0, .ref (ad 1)), (1, .int w1), (2, .int w2), (3, .int w3), (4, .int w4)] [.long y5]
      obtain rfl := Option.some.inj h
      exact v_lret (pc := 61) hX hR dX6_rankOf_61
    · have h := if_f h h3
      refine v_lookup (pc := 4) (tgt := 62) (off := 58) hX dX6_rankOf_4 (by decide) (by rw [show (#[(1, 28), (2, 45)] : Array (Int × Int)).toList = [(1, 28), (2, 45)] from rfl, lv_osw h1 (by decide), lv_osw h3 (by decide)]; rfl) (by decide) ?_
      refine v_lconst (v := 0) (pc := 62) hX dX6_rankOf_62 (by decide) ?_
      obtain rfl := Option.some.inj h
      exact v_lret (pc := 63) hX hR dX6_rankOf_63
set_option maxHeartbeats 4000000 in
set_option maxRecDepth 100000 in
theorem c_X9_insert {ad : Nat → Nat} {cs : List Nat} (hcs : ∀ k, 86 ≤ k → k < 90 → k ∈ cs) (M : Mm) (w1 : Int32) (w2 : Int64) (w3 : Int64) (q : Mm) (h : fX9_insert M w1 w2 w3 = some q) : CT ad cs yX9_insert cX9_insert 7 none 0 0 [.ref (ad 86), .int w1, .long w2, .long w3] M none q := by
  refine CT.of RX9 (by decide +kernel) rfl (Nat.le_of_ble_eq_true rfl) (fun X hX hR => ?_)
  unfold fX9_insert at h
  show VV X 7 ad cs M 0 [(0, .ref (ad 86)), (1, .int w1), (2, .long w2), (4, .long w3)] []
  refine v_aload_n (pc := 0) 0 hX dX9_insert_0 rfl ?_
  refine v_getI (pc := 1) hX (hcs 86 (Nat.le_of_ble_eq_true rfl) (Nat.le_of_ble_eq_true rfl)) sh_86 fl_9_22 rfl dX9_insert_1 ?_
  refine v_bipush (pc := 4) hX dX9_insert_4 bp_8 ?_
  refine v_icmp_lt (pc := 6) (tgt := 10) hX dX9_insert_6 (by decide) (fun h1 => ?_) (fun h1 => ?_)
  · have h := if_t h h1
    refine v_aload_n (pc := 10) 0 hX dX9_insert_10 rfl ?_
    refine v_getI (pc := 11) hX (hcs 86 (Nat.le_of_ble_eq_true rfl) (Nat.le_of_ble_eq_true rfl)) sh_86 fl_9_22 rfl dX9_insert_11 ?_
    obtain ⟨x2, ex2, h⟩ := bd_e h
    refine v_top ex2 ?_
    refine v_istore (pc := 14) [(6, .int x2), (0, .ref (ad 86)), (1, .int w1), (2, .long w2), (4, .long w3)] hX dX9_insert_14 (by decide) rfl ?_
    have L13 := v_itr (fX9_insert_L16 w2) (fun z => VV X 7 ad cs z.2 16 [(0, .ref (ad 86)), (1, .int w1), (2, .long w2), (4, .long w3), (6, .int z.1)] []) (fun z => VV X 7 ad cs z.2 89 [(0, .ref (ad 86)), (1, .int w1), (2, .long w2), (4, .long w3), (6, .int z.1)] []) (by
      rintro ⟨x3, M4⟩ q h hK
      unfold fX9_insert_L16 at h
      have h := u2_b h
      show VV X 7 ad cs M4 16 [(0, .ref (ad 86)), (1, .int w1), (2, .long w2), (4, .long w3), (6, .int x3)] []
      refine v_iload (pc := 16) 4 hX dX9_insert_16 rfl ?_
      refine v_if_le (pc := 18) (tgt := 89) hX dX9_insert_18 (by decide) (fun h5 => ?_) (fun h5 => ?_)
      · have h := if_t h h5
        obtain rfl := Option.some.inj h
        exact v_sub [0, 1, 2, 3, 4] rfl hK
      · have h := if_f h h5
        refine v_aload_n (pc := 21) 0 hX dX9_insert_21 rfl ?_
        refine v_getR (pc := 22) (t := 88) hX (hcs 86 (Nat.le_of_ble_eq_true rfl) (Nat.le_of_ble_eq_true rfl)) sh_86 fl_9_15 rfl dX9_insert_22 ?_
        refine v_iload (pc := 25) 4 hX dX9_insert_25 rfl ?_
        refine v_iconst (pc := 27) hX dX9_insert_27 ic_1 ?_
        refine v_isub (pc := 28) hX dX9_insert_28 ?_
        obtain ⟨g6, h⟩ := gd_e h
        refine v_lald (pc := 29) hX (hcs 88 (Nat.le_of_ble_eq_true rfl) (Nat.le_of_ble_eq_true rfl)) sh_88 g6 rfl dX9_insert_29 ?_
        refine v_lload_n (pc := 30) 2 hX dX9_insert_30 rfl ?_
        refine v_lcmp (pc := 31) hX dX9_insert_31 ?_
        refine v_if_le (pc := 32) (tgt := 89) hX dX9_insert_32 (by decide) (fun h7 => ?_) (fun h7 => ?_)
        · have h := if_t h h7
          obtain rfl := Option.some.inj h
          exact v_sub [0, 1, 2, 3, 4] rfl hK
        · have h := if_f h h7
          refine v_aload_n (pc := 35) 0 hX dX9_insert_35 rfl ?_
          refine v_getR (pc := 36) (t := 87) hX (hcs 86 (Nat.le_of_ble_eq_true rfl) (Nat.le_of_ble_eq_true rfl)) sh_86 fl_9_9 rfl dX9_insert_36 ?_
          refine v_iload (pc := 39) 4 hX dX9_insert_39 rfl ?_
          refine v_aload_n (pc := 41) 0 hX dX9_insert_41 rfl ?_
          refine v_getR (pc := 42) (t := 87) hX (hcs 86 (Nat.le_of_ble_eq_true rfl) (Nat.le_of_ble_eq_true rfl)) sh_86 fl_9_9 rfl dX9_insert_42 ?_
          refine v_iload (pc := 45) 4 hX dX9_insert_45 rfl ?_
          refine v_iconst (pc := 47) hX dX9_insert_47 ic_1 ?_
          refine v_isub (pc := 48) hX dX9_insert_48 ?_
          refine v_iald (pc := 49) hX (hcs 87 (Nat.le_of_ble_eq_true rfl) (Nat.le_of_ble_eq_true rfl)) sh_87 g6 rfl dX9_insert_49 ?_
          obtain ⟨g8, h⟩ := gd_e h
          obtain ⟨M9, eM9, h⟩ := bd_e h
          refine v_iast (pc := 50) hX (hcs 87 (Nat.le_of_ble_eq_true rfl) (Nat.le_of_ble_eq_true rfl)) sh_87 g8 rfl dX9_insert_50 eM9 ?_
          refine v_aload_n (pc := 51) 0 hX dX9_insert_51 rfl ?_
          refine v_getR (pc := 52) (t := 88) hX (hcs 86 (Nat.le_of_ble_eq_true rfl) (Nat.le_of_ble_eq_true rfl)) sh_86 fl_9_15 rfl dX9_insert_52 ?_
          refine v_iload (pc := 55) 4 hX dX9_insert_55 rfl ?_
          refine v_aload_n (pc := 57) 0 hX dX9_insert_57 rfl ?_
          refine v_getR (pc := 58) (t := 88) hX (hcs 86 (Nat.le_of_ble_eq_true rfl) (Nat.le_of_ble_eq_true rfl)) sh_86 fl_9_15 rfl dX9_insert_58 ?_
          refine v_iload (pc := 61) 4 hX dX9_insert_61 rfl ?_
          refine v_iconst (pc := 63) hX dX9_insert_63 ic_1 ?_
          refine v_isub (pc := 64) hX dX9_insert_64 ?_
          refine v_lald (pc := 65) hX (hcs 88 (Nat.le_of_ble_eq_true rfl) (Nat.le_of_ble_eq_true rfl)) sh_88 g6 rfl dX9_insert_65 ?_
          obtain ⟨M10, eM10, h⟩ := bd_e h
          refine v_last (pc := 66) hX (hcs 88 (Nat.le_of_ble_eq_true rfl) (Nat.le_of_ble_eq_true rfl)) sh_88 g8 rfl dX9_insert_66 eM10 ?_
          refine v_aload_n (pc := 67) 0 hX dX9_insert_67 rfl ?_
          refine v_getR (pc := 68) (t := 89) hX (hcs 86 (Nat.le_of_ble_eq_true rfl) (Nat.le_of_ble_eq_true rfl)) sh_86 fl_9_19 rfl dX9_insert_68 ?_
          refine v_iload (pc := 71) 4 hX dX9_insert_71 rfl ?_
          refine v_aload_n (pc := 73) 0 hX dX9_insert_73 rfl ?_
          refine v_getR (pc := 74) (t := 89) hX (hcs 86 (Nat.le_of_ble_eq_true rfl) (Nat.le_of_ble_eq_true rfl)) sh_86 fl_9_19 rfl dX9_insert_74 ?_
          refine v_iload (pc := 77) 4 hX dX9_insert_77 rfl ?_
          refine v_iconst (pc := 79) hX dX9_insert_79 ic_1 ?_
          refine v_isub (pc := 80) hX dX9_insert_80 ?_
          refine v_lald (pc := 81) hX (hcs 89 (Nat.le_of_ble_eq_true rfl) (Nat.le_of_ble_eq_true rfl)) sh_89 g6 rfl dX9_insert_81 ?_
          obtain ⟨M11, eM11, h⟩ := bd_e h
          refine v_last (pc := 82) hX (hcs 89 (Nat.le_of_ble_eq_true rfl) (Nat.le_of_ble_eq_true rfl)) sh_89 g8 rfl dX9_insert_82 eM11 ?_
          obtain ⟨x12, ex12, h⟩ := bd_e h
          refine v_iinc (v := x12) (pc := 83) 4 [(6, .int x12), (0, .ref (ad 86)), (1, .int w1), (2, .long w2), (4, .long w3)] hX dX9_insert_83 rfl (ex12.trans (by rw [ic_m1])) (by decide) rfl ?_
          refine v_goto (pc := 86) (tgt := 16) hX dX9_insert_86 (by decide) ?_
          obtain rfl := Option.some.inj h
          exact v_sub [1, 2, 3, 4, 0] rfl hK
    )
    obtain ⟨x14, M15, h21, h⟩ := b2_e h
    refine v_sub [1, 2, 3, 4, 0] rfl ?_
    refine L13 1000 _ _ h21 ?_
    show VV X 7 ad cs M15 89 [(0, .ref (ad 86)), (1, .int w1), (2, .long w2), (4, .long w3), (6, .int x14)] []
    refine v_aload_n (pc := 89) 0 hX dX9_insert_89 rfl ?_
    refine v_getR (pc := 90) (t := 87) hX (hcs 86 (Nat.le_of_ble_eq_true rfl) (Nat.le_of_ble_eq_true rfl)) sh_86 fl_9_9 rfl dX9_insert_90 ?_
    refine v_iload (pc := 93) 4 hX dX9_insert_93 rfl ?_
    refine v_iload_n (pc := 95) 1 hX dX9_insert_95 rfl ?_
    obtain ⟨g16, h⟩ := gd_e h
    obtain ⟨M17, eM17, h⟩ := bd_e h
    refine v_iast (pc := 96) hX (hcs 87 (Nat.le_of_ble_eq_true rfl) (Nat.le_of_ble_eq_true rfl)) sh_87 g16 rfl dX9_insert_96 eM17 ?_
    refine v_aload_n (pc := 97) 0 hX dX9_insert_97 rfl ?_
    refine v_getR (pc := 98) (t := 88) hX (hcs 86 (Nat.le_of_ble_eq_true rfl) (Nat.le_of_ble_eq_true rfl)) sh_86 fl_9_15 rfl dX9_insert_98 ?_
    refine v_iload (pc := 101) 4 hX dX9_insert_101 rfl ?_
    refine v_lload_n (pc := 103) 2 hX dX9_insert_103 rfl ?_
    obtain ⟨M18, eM18, h⟩ := bd_e h
    refine v_last (pc := 104) hX (hcs 88 (Nat.le_of_ble_eq_true rfl) (Nat.le_of_ble_eq_true rfl)) sh_88 g16 rfl dX9_insert_104 eM18 ?_
    refine v_aload_n (pc := 105) 0 hX dX9_insert_105 rfl ?_
    refine v_getR (pc := 106) (t := 89) hX (hcs 86 (Nat.le_of_ble_eq_true rfl) (Nat.le_of_ble_eq_true rfl)) sh_86 fl_9_19 rfl dX9_insert_106 ?_
    refine v_iload (pc := 109) 4 hX dX9_insert_109 rfl ?_
    refine v_lload (pc := 111) 3 hX dX9_insert_111 rfl ?_
    obtain ⟨M19, eM19, h⟩ := bd_e h
    refine v_last (pc := 113) hX (hcs 89 (Nat.le_of_ble_eq_true rfl) (Nat.le_of_ble_eq_true rfl)) sh_89 g16 rfl dX9_insert_113 eM19 ?_
    refine v_aload_n (pc := 114) 0 hX dX9_insert_114 rfl ?_
    refine v_dup (pc := 115) hX dX9_insert_115 rfl ?_
    refine v_getI (pc := 116) hX (hcs 86 (Nat.le_of_ble_eq_true rfl) (Nat.le_of_ble_eq_true rfl)) sh_86 fl_9_22 rfl dX9_insert_116 ?_
    refine v_iconst (pc := 119) hX dX9_insert_119 ic_1 ?_
    refine v_iadd (pc := 120) hX dX9_insert_120 ?_
    obtain ⟨M20, eM20, h⟩ := bd_e h
    refine v_putI (pc := 121) hX (hcs 86 (Nat.le_of_ble_eq_true rfl) (Nat.le_of_ble_eq_true rfl)) sh_86 pl_9_22 rfl dX9_insert_121 eM20 ?_
    obtain rfl := Option.some.inj h
    exact v_vret (pc := 124) hX hR dX9_insert_124
  · have h := if_f h h1
    obtain rfl := Option.some.inj h
    exact v_vret (pc := 9) hX hR dX9_insert_9
set_option maxHeartbeats 4000000 in
set_option maxRecDepth 100000 in
theorem c_X9_gather {ad : Nat → Nat} {cs : List Nat} (hcs : ∀ k, 1 ≤ k → k < 90 → k ∈ cs) (M : Mm) (w2 : Int32) (q : Mm) (h : fX9_gather M w2 = some q) : CT ad cs yX9_gather cX9_gather 7 none 3 77 [.ref (ad 86), .ref (ad 1), .int w2] M none q := by
  refine CT.of RX9 (by decide +kernel) rfl (Nat.le_of_ble_eq_true rfl) (fun X hX hR => ?_)
  unfold fX9_gather at h
  show VV X 7 ad cs M 0 [(0, .ref (ad 86)), (1, .ref (ad 1)), (2, .int w2)] []
  refine v_aload_n (pc := 0) 0 hX dX9_gather_0 rfl ?_
  refine v_iconst (pc := 1) hX dX9_gather_1 ic_0 ?_
  obtain ⟨M1, eM1, h⟩ := bd_e h
  refine v_putI (pc := 2) hX (hcs 86 (Nat.le_of_ble_eq_true rfl) (Nat.le_of_ble_eq_true rfl)) sh_86 pl_9_22 rfl dX9_gather_2 eM1 ?_
  refine v_aload_n (pc := 5) 0 hX dX9_gather_5 rfl ?_
  refine v_aload_n (pc := 6) 1 hX dX9_gather_6 rfl ?_
  obtain ⟨y3, h2, h⟩ := b1_e h
  refine v_callV (pc := 7) [] (some (.long y3)) M1 hX cv_9_26 (c_X6_valueHere (sub_cs hcs (Nat.le_of_ble_eq_true rfl) (Nat.le_of_ble_eq_true rfl)) M1 y3 h2) (hcs 1 (Nat.le_of_ble_eq_true rfl) (Nat.le_of_ble_eq_true rfl)) sh_1 rfl rfl rfl ⟨Nat.le_of_ble_eq_true rfl, Nat.le_of_ble_eq_true rfl⟩ (Nat.le_of_ble_eq_true rfl) dX9_gather_7 ?_
  show VV X 7 ad cs M1 10 [(0, .ref (ad 86)), (1, .ref (ad 1)), (2, .int w2)] [.long y3, .ref (ad 86)]
  obtain ⟨M4, eM4, h⟩ := bd_e h
  refine v_putL (pc := 10) hX (hcs 86 (Nat.le_of_ble_eq_true rfl) (Nat.le_of_ble_eq_true rfl)) sh_86 pl_9_32 rfl dX9_gather_10 eM4 ?_
  refine v_iconst (pc := 13) hX dX9_gather_13 ic_0 ?_
  refine v_istore_n (pc := 14) [(3, .int 0), (0, .ref (ad 86)), (1, .ref (ad 1)), (2, .int w2)] hX dX9_gather_14 (by decide) rfl ?_
  have L27 := v_itr (fX9_gather_L15 w2) (fun z => VV X 7 ad cs z.2 15 [(0, .ref (ad 86)), (1, .ref (ad 1)), (2, .int w2), (3, .int z.1)] []) (fun z => VV X 7 ad cs z 105 [] []) (by
    rintro ⟨x5, M6⟩ q h hK
    unfold fX9_gather_L15 at h
    have h := u2_b h
    show VV X 7 ad cs M6 15 [(0, .ref (ad 86)), (1, .ref (ad 1)), (2, .int w2), (3, .int x5)] []
    refine v_iload_n (pc := 15) 3 hX dX9_gather_15 rfl ?_
    refine v_aload_n (pc := 16) 1 hX dX9_gather_16 rfl ?_
    refine v_getR (pc := 17) (t := 8) hX (hcs 1 (Nat.le_of_ble_eq_true rfl) (Nat.le_of_ble_eq_true rfl)) sh_1 fl_9_35 rfl dX9_gather_17 ?_
    refine v_getI (pc := 20) hX (hcs 8 (Nat.le_of_ble_eq_true rfl) (Nat.le_of_ble_eq_true rfl)) sh_8 fl_9_38 rfl dX9_gather_20 ?_
    refine v_icmp_ge (pc := 23) (tgt := 105) hX dX9_gather_23 (by decide) (fun h7 => ?_) (fun h7 => ?_)
    · have h := if_t h h7
      obtain rfl := Option.some.inj h
      exact v_sub [] rfl hK
    · have h := if_f h h7
      refine v_aload_n (pc := 26) 1 hX dX9_gather_26 rfl ?_
      refine v_iload_n (pc := 27) 3 hX dX9_gather_27 rfl ?_
      refine v_iconst (pc := 28) hX dX9_gather_28 ic_0 ?_
      refine v_iload_n (pc := 29) 2 hX dX9_gather_29 rfl ?_
      obtain ⟨x9, h8, h⟩ := b1_e h
      refine v_callV (pc := 30) [.int x5, .int 0, .int w2] (some (.int x9)) M6 hX cv_9_41 (c_X6_trialNumber (sub_cs hcs (Nat.le_of_ble_eq_true rfl) (Nat.le_of_ble_eq_true rfl)) M6 x5 0 w2 x9 h8) (hcs 1 (Nat.le_of_ble_eq_true rfl) (Nat.le_of_ble_eq_true rfl)) sh_1 rfl rfl rfl ⟨Nat.le_of_ble_eq_true rfl, Nat.le_of_ble_eq_true rfl⟩ (Nat.le_of_ble_eq_true rfl) dX9_gather_30 ?_
      show VV X 7 ad cs M6 33 [(0, .ref (ad 86)), (1, .ref (ad 1)), (2, .int w2), (3, .int x5)] [.int x9]
      refine v_istore (pc := 33) [(4, .int x9), (0, .ref (ad 86)), (1, .ref (ad 1)), (2, .int w2), (3, .int x5)] hX dX9_gather_33 (by decide) rfl ?_
      refine v_aload_n (pc := 35) 2 hX dX9_gather_35 rfl ?_
      refine v_iload_n (pc := 36) 4 hX dX9_gather_36 rfl ?_
      refine v_iconst (pc := 37) hX dX9_gather_37 ic_1 ?_
      refine v_iload_n (pc := 38) 3 hX dX9_gather_38 rfl ?_
      obtain ⟨x11, h10, h⟩ := b1_e h
      refine v_callV (pc := 39) [.int x5, .int 1, .int w2] (some (.int x11)) M6 hX cv_9_41 (c_X6_trialNumber (sub_cs hcs (Nat.le_of_ble_eq_true rfl) (Nat.le_of_ble_eq_true rfl)) M6 x5 1 w2 x11 h10) (hcs 1 (Nat.le_of_ble_eq_true rfl) (Nat.le_of_ble_eq_true rfl)) sh_1 rfl rfl rfl ⟨Nat.le_of_ble_eq_true rfl, Nat.le_of_ble_eq_true rfl⟩ (Nat.le_of_ble_eq_true rfl) dX9_gather_39 ?_
      show VV X 7 ad cs M6 42 [(4, .int x9), (0, .ref (ad 86)), (1, .ref (ad 1)), (2, .int w2), (3, .int x5)] [.int x11]
      refine v_istore (pc := 42) [(5, .int x11), (4, .int x9), (0, .ref (ad 86)), (1, .ref (ad 1)), (2, .int w2), (3, .int x5)] hX dX9_gather_42 (by decide) rfl ?_
      refine v_aload_n (pc := 44) 3 hX dX9_gather_44 rfl ?_
      refine v_iload_n (pc := 45) 5 hX dX9_gather_45 rfl ?_
      refine v_iconst (pc := 46) hX dX9_gather_46 ic_2 ?_
      refine v_iload_n (pc := 47) 4 hX dX9_gather_47 rfl ?_
      obtain ⟨x13, h12, h⟩ := b1_e h
      refine v_callV (pc := 48) [.int x5, .int 2, .int w2] (some (.int x13)) M6 hX cv_9_41 (c_X6_trialNumber (sub_cs hcs (Nat.le_of_ble_eq_true rfl) (Nat.le_of_ble_eq_true rfl)) M6 x5 2 w2 x13 h12) (hcs 1 (Nat.le_of_ble_eq_true rfl) (Nat.le_of_ble_eq_true rfl)) sh_1 rfl rfl rfl ⟨Nat.le_of_ble_eq_true rfl, Nat.le_of_ble_eq_true rfl⟩ (Nat.le_of_ble_eq_true rfl) dX9_gather_48 ?_
      show VV X 7 ad cs M6 51 [(5, .int x11), (4, .int x9), (0, .ref (ad 86)), (1, .ref (ad 1)), (2, .int w2), (3, .int x5)] [.int x13]
      refine v_istore (pc := 51) [(6, .int x13), (5, .int x11), (4, .int x9), (0, .ref (ad 86)), (1, .ref (ad 1)), (2, .int w2), (3, .int x5)] hX dX9_gather_51 (by decide) rfl ?_
      refine v_aload_n (pc := 53) 4 hX dX9_gather_53 rfl ?_
      refine v_getR (pc := 54) (t := 5) hX (hcs 1 (Nat.le_of_ble_eq_true rfl) (Nat.le_of_ble_eq_true rfl)) sh_1 fl_9_45 rfl dX9_gather_54 ?_
      refine v_iload (pc := 57) 2 hX dX9_gather_57 rfl ?_
      refine v_iload (pc := 59) 1 hX dX9_gather_59 rfl ?_
      refine v_iload (pc := 61) 0 hX dX9_gather_61 rfl ?_
      obtain ⟨x15, h14, h⟩ := b1_e h
      refine v_callV (pc := 63) [.int x9, .int x11, .int x13] (some (.int x15)) M6 hX cv_9_49 (c_X0_allow (sub_cs hcs (Nat.le_of_ble_eq_true rfl) (Nat.le_of_ble_eq_true rfl)) M6 x9 x11 x13 x15 h14) (hcs 5 (Nat.le_of_ble_eq_true rfl) (Nat.le_of_ble_eq_true rfl)) sh_5 rfl rfl rfl ⟨Nat.le_of_ble_eq_true rfl, Nat.le_of_ble_eq_true rfl⟩ (Nat.le_of_ble_eq_true rfl) dX9_gather_63 ?_
      show VV X 7 ad cs M6 66 [(6, .int x13), (5, .int x11), (4, .int x9), (0, .ref (ad 86)), (1, .ref (ad 1)), (2, .int w2), (3, .int x5)] [.int x15]
      obtain ⟨k16, ek16, h⟩ := bd_e h
      have K17 : ∀ (M18 : Mm), k16 M18 = some q → VV X 7 ad cs M18 99 [(0, .ref (ad 86)), (1, .ref (ad 1)), (2, .int w2), (3, .int x5)] [] := by
        intro M18 h
        subst ek16
        obtain ⟨x19, ex19, h⟩ := bd_e h
        refine v_iinc (v := x19) (pc := 99) 3 [(3, .int x19), (0, .ref (ad 86)), (1, .ref (ad 1)), (2, .int w2)] hX dX9_gather_99 rfl (ex19.trans (by rw [ic_1])) (by decide) rfl ?_
        refine v_goto (pc := 102) (tgt := 15) hX dX9_gather_102 (by decide) ?_
        obtain rfl := Option.some.inj h
        exact v_sub [1, 2, 3, 0] rfl hK
      refine v_if_eq (pc := 66) (tgt := 99) hX dX9_gather_66 (by decide) (fun h20 => ?_) (fun h20 => ?_)
      · have h := if_t h h20
        exact v_sub [3, 4, 5, 6] rfl (K17 M6 h)
      · have h := if_f h h20
        refine v_aload_n (pc := 69) 3 hX dX9_gather_69 rfl ?_
        refine v_iload_n (pc := 70) 6 hX dX9_gather_70 rfl ?_
        refine v_aload_n (pc := 71) 4 hX dX9_gather_71 rfl ?_
        refine v_iload_n (pc := 72) 6 hX dX9_gather_72 rfl ?_
        refine v_iload (pc := 73) 2 hX dX9_gather_73 rfl ?_
        refine v_iload (pc := 75) 1 hX dX9_gather_75 rfl ?_
        refine v_iload (pc := 77) 0 hX dX9_gather_77 rfl ?_
        obtain ⟨y22, h21, h⟩ := b1_e h
        refine v_callV (pc := 79) [.int x5, .int x9, .int x11, .int x13] (some (.long y22)) M6 hX cv_9_55 (c_X6_rankOf (sub_cs hcs (Nat.le_of_ble_eq_true rfl) (Nat.le_of_ble_eq_true rfl)) M6 x5 x9 x11 x13 y22 h21) (hcs 1 (Nat.le_of_ble_eq_true rfl) (Nat.le_of_ble_eq_true rfl)) sh_1 rfl rfl rfl ⟨Nat.le_of_ble_eq_true rfl, Nat.le_of_ble_eq_true rfl⟩ (Nat.le_of_ble_eq_true rfl) dX9_gather_79 ?_
        show VV X 7 ad cs M6 82 [(6, .int x13), (5, .int x11), (4, .int x9), (0, .ref (ad 86)), (1, .ref (ad 1)), (2, .int w2), (3, .int x5)] [.long y22, .int x5, .ref (ad 86)]
        refine v_aload_n (pc := 82) 4 hX dX9_gather_82 rfl ?_
        refine v_getR (pc := 83) (t := 2) hX (hcs 1 (Nat.le_of_ble_eq_true rfl) (Nat.le_of_ble_eq_true rfl)) sh_1 fl_9_59 rfl dX9_gather_83 ?_
        refine v_iload (pc := 86) 2 hX dX9_gather_86 rfl ?_
        refine v_iload (pc := 88) 1 hX dX9_gather_88 rfl ?_
        refine v_iload (pc := 90) 0 hX dX9_gather_90 rfl ?_
        refine v_iconst (pc := 92) hX dX9_gather_92 ic_4 ?_
        obtain ⟨y24, h23, h⟩ := b1_e h
        refine v_callV (pc := 93) [.int x9, .int x11, .int x13, .int 4] (some (.long y24)) M6 hX cv_9_63 (c_X7_sumAt (sub_cs hcs (Nat.le_of_ble_eq_true rfl) (Nat.le_of_ble_eq_true rfl)) M6 x9 x11 x13 4 y24 h23) (hcs 2 (Nat.le_of_ble_eq_true rfl) (Nat.le_of_ble_eq_true rfl)) sh_2 rfl rfl rfl ⟨Nat.le_of_ble_eq_true rfl, Nat.le_of_ble_eq_true rfl⟩ (Nat.le_of_ble_eq_true rfl) dX9_gather_93 ?_
        show VV X 7 ad cs M6 96 [(6, .int x13), (5, .int x11), (4, .int x9), (0, .ref (ad 86)), (1, .ref (ad 1)), (2, .int w2), (3, .int x5)] [.long y24, .long y22, .int x5, .ref (ad 86)]
        obtain ⟨M26, h25, h⟩ := b1_e h
        refine v_callV (pc := 96) [.int x5, .long y22, .long y24] none M26 hX cv_9_68 (c_X9_insert (sub_cs hcs (Nat.le_of_ble_eq_true rfl) (Nat.le_of_ble_eq_true rfl)) M6 x5 y22 y24 M26 h25) (hcs 86 (Nat.le_of_ble_eq_true rfl) (Nat.le_of_ble_eq_true rfl)) sh_86 rfl rfl rfl ⟨Nat.le_of_ble_eq_true rfl, Nat.le_of_ble_eq_true rfl⟩ (Nat.le_of_ble_eq_true rfl) dX9_gather_96 ?_
        show VV X 7 ad cs M26 99 [(6, .int x13), (5, .int x11), (4, .int x9), (0, .ref (ad 86)), (1, .ref (ad 1)), (2, .int w2), (3, .int x5)] []
        exact v_sub [3, 4, 5, 6] rfl (K17 M26 h)
  )
  obtain ⟨M28, h29, h⟩ := b1_e h
  refine v_sub [1, 2, 3, 0] rfl ?_
  refine L27 1000 _ _ h29 ?_
  show VV X 7 ad cs M28 105 [] []
  obtain rfl := Option.some.inj h
  exact v_vret (pc := 105) hX hR dX9_gather_105
set_option maxHeartbeats 4000000 in
set_option maxRecDepth 100000 in
theorem c_X9_chooseBetter {ad : Nat → Nat} {cs : List Nat} (hcs : ∀ k, 86 ≤ k → k < 90 → k ∈ cs) (M : Mm) (w1 : Int32) (q : Int32 × Mm) (h : fX9_chooseBetter M w1 = some q) : CT ad cs yX9_chooseBetter cX9_chooseBetter 6 (some .int) 0 0 [.ref (ad 86), .int w1] M (some (.int q.1)) q.2 := by
  refine CT.of RX9 (by decide +kernel) rfl (Nat.le_of_ble_eq_true rfl) (fun X hX hR => ?_)
  unfold fX9_chooseBetter at h
  show VV X 6 ad cs M 0 [(0, .ref (ad 86)), (1, .int w1)] []
  refine v_iconst (pc := 0) hX dX9_chooseBetter_0 ic_m1 ?_
  refine v_istore_n (pc := 1) [(2, .int (-1)), (0, .ref (ad 86)), (1, .int w1)] hX dX9_chooseBetter_1 (by decide) rfl ?_
  refine v_aload_n (pc := 2) 1 hX dX9_chooseBetter_2 rfl ?_
  refine v_getL (pc := 3) hX (hcs 86 (Nat.le_of_ble_eq_true rfl) (Nat.le_of_ble_eq_true rfl)) sh_86 fl_9_32 rfl dX9_chooseBetter_3 ?_
  obtain ⟨y1, ey1, h⟩ := bd_e h
  refine v_topl ey1 ?_
  refine v_lstore_n (pc := 6) [(3, .long y1), (2, .int (-1)), (0, .ref (ad 86)), (1, .int w1)] hX dX9_chooseBetter_6 (by decide) rfl ?_
  refine v_aload_n (pc := 7) 2 hX dX9_chooseBetter_7 rfl ?_
  refine v_iconst (pc := 8) hX dX9_chooseBetter_8 ic_0 ?_
  obtain ⟨M2, eM2, h⟩ := bd_e h
  refine v_putI (pc := 9) hX (hcs 86 (Nat.le_of_ble_eq_true rfl) (Nat.le_of_ble_eq_true rfl)) sh_86 pl_9_76 rfl dX9_chooseBetter_9 eM2 ?_
  refine v_iconst (pc := 12) hX dX9_chooseBetter_12 ic_0 ?_
  refine v_istore (pc := 13) [(5, .int 0), (3, .long y1), (2, .int (-1)), (0, .ref (ad 86)), (1, .int w1)] hX dX9_chooseBetter_13 (by decide) rfl ?_
  have L19 := v_itr (fX9_chooseBetter_L15 w1) (fun z => VV X 6 ad cs z.2.2.2 15 [(0, .ref (ad 86)), (1, .int w1), (2, .int z.1), (3, .long z.2.1), (5, .int z.2.2.1)] []) (Sum.elim (fun z => VV X 6 ad cs z.2 66 [(2, .int z.1)] []) (fun z => VV X 6 ad cs z.2 75 [(2, .int z.1)] [])) (by
    rintro ⟨x3, y4, x5, M6⟩ q h hK
    unfold fX9_chooseBetter_L15 at h
    have h := u4_b h
    show VV X 6 ad cs M6 15 [(0, .ref (ad 86)), (1, .int w1), (2, .int x3), (3, .long y4), (5, .int x5)] []
    refine v_iload (pc := 15) 4 hX dX9_chooseBetter_15 rfl ?_
    refine v_aload_n (pc := 17) 0 hX dX9_chooseBetter_17 rfl ?_
    refine v_getI (pc := 18) hX (hcs 86 (Nat.le_of_ble_eq_true rfl) (Nat.le_of_ble_eq_true rfl)) sh_86 fl_9_22 rfl dX9_chooseBetter_18 ?_
    refine v_icmp_ge (pc := 21) (tgt := 75) hX dX9_chooseBetter_21 (by decide) (fun h7 => ?_) (fun h7 => ?_)
    · have h := if_t h h7
      obtain rfl := Option.some.inj h
      exact v_sub [2] rfl hK
    · have h := if_f h h7
      refine v_aload_n (pc := 24) 0 hX dX9_chooseBetter_24 rfl ?_
      refine v_dup (pc := 25) hX dX9_chooseBetter_25 rfl ?_
      refine v_getI (pc := 26) hX (hcs 86 (Nat.le_of_ble_eq_true rfl) (Nat.le_of_ble_eq_true rfl)) sh_86 fl_9_76 rfl dX9_chooseBetter_26 ?_
      refine v_iconst (pc := 29) hX dX9_chooseBetter_29 ic_1 ?_
      refine v_iadd (pc := 30) hX dX9_chooseBetter_30 ?_
      obtain ⟨M8, eM8, h⟩ := bd_e h
      refine v_putI (pc := 31) hX (hcs 86 (Nat.le_of_ble_eq_true rfl) (Nat.le_of_ble_eq_true rfl)) sh_86 pl_9_76 rfl dX9_chooseBetter_31 eM8 ?_
      refine v_aload_n (pc := 34) 0 hX dX9_chooseBetter_34 rfl ?_
      refine v_getR (pc := 35) (t := 89) hX (hcs 86 (Nat.le_of_ble_eq_true rfl) (Nat.le_of_ble_eq_true rfl)) sh_86 fl_9_19 rfl dX9_chooseBetter_35 ?_
      refine v_iload (pc := 38) 4 hX dX9_chooseBetter_38 rfl ?_
      obtain ⟨g9, h⟩ := gd_e h
      refine v_lald (pc := 40) hX (hcs 89 (Nat.le_of_ble_eq_true rfl) (Nat.le_of_ble_eq_true rfl)) sh_89 g9 rfl dX9_chooseBetter_40 ?_
      refine v_lload_n (pc := 41) 3 hX dX9_chooseBetter_41 rfl ?_
      refine v_lcmp (pc := 42) hX dX9_chooseBetter_42 ?_
      obtain ⟨k10, ek10, h⟩ := bd_e h
      have K11 : ∀ (x12 : Int32) (y13 : Int64), k10 x12 y13 = some q → VV X 6 ad cs M8 69 [(0, .ref (ad 86)), (1, .int w1), (2, .int x12), (3, .long y13), (5, .int x5)] [] := by
        intro x12 y13 h
        subst ek10
        obtain ⟨x14, ex14, h⟩ := bd_e h
        refine v_iinc (v := x14) (pc := 69) 4 [(5, .int x14), (0, .ref (ad 86)), (1, .int w1), (2, .int x12), (3, .long y13)] hX dX9_chooseBetter_69 rfl (ex14.trans (by rw [ic_1])) (by decide) rfl ?_
        refine v_goto (pc := 72) (tgt := 15) hX dX9_chooseBetter_72 (by decide) ?_
        obtain rfl := Option.some.inj h
        exact v_sub [1, 2, 3, 4, 0] rfl hK
      refine v_if_ge (pc := 43) (tgt := 69) hX dX9_chooseBetter_43 (by decide) (fun h15 => ?_) (fun h15 => ?_)
      · have h := if_t h h15
        exact v_sub [0, 1, 2, 3, 4] rfl (K11 x3 y4 h)
      · have h := if_f h h15
        refine v_aload_n (pc := 46) 0 hX dX9_chooseBetter_46 rfl ?_
        refine v_getR (pc := 47) (t := 87) hX (hcs 86 (Nat.le_of_ble_eq_true rfl) (Nat.le_of_ble_eq_true rfl)) sh_86 fl_9_9 rfl dX9_chooseBetter_47 ?_
        refine v_iload (pc := 50) 4 hX dX9_chooseBetter_50 rfl ?_
        refine v_iald (pc := 52) hX (hcs 87 (Nat.le_of_ble_eq_true rfl) (Nat.le_of_ble_eq_true rfl)) sh_87 g9 rfl dX9_chooseBetter_52 ?_
        obtain ⟨x16, ex16, h⟩ := bd_e h
        refine v_top ex16 ?_
        refine v_istore_n (pc := 53) [(2, .int x16), (0, .ref (ad 86)), (1, .int w1), (3, .long y4), (5, .int x5)] hX dX9_chooseBetter_53 (by decide) rfl ?_
        refine v_aload_n (pc := 54) 1 hX dX9_chooseBetter_54 rfl ?_
        refine v_getR (pc := 55) (t := 89) hX (hcs 86 (Nat.le_of_ble_eq_true rfl) (Nat.le_of_ble_eq_true rfl)) sh_86 fl_9_19 rfl dX9_chooseBetter_55 ?_
        refine v_iload (pc := 58) 4 hX dX9_chooseBetter_58 rfl ?_
        refine v_lald (pc := 60) hX (hcs 89 (Nat.le_of_ble_eq_true rfl) (Nat.le_of_ble_eq_true rfl)) sh_89 g9 rfl dX9_chooseBetter_60 ?_
        obtain ⟨y17, ey17, h⟩ := bd_e h
        refine v_topl ey17 ?_
        refine v_lstore_n (pc := 61) [(3, .long y17), (2, .int x16), (0, .ref (ad 86)), (1, .int w1), (5, .int x5)] hX dX9_chooseBetter_61 (by decide) rfl ?_
        refine v_iload_n (pc := 62) 3 hX dX9_chooseBetter_62 rfl ?_
        refine v_if_ne (pc := 63) (tgt := 69) hX dX9_chooseBetter_63 (by decide) (fun h18 => ?_) (fun h18 => ?_)
        · have h := if_f h h18
          exact v_sub [2, 3, 1, 0, 4] rfl (K11 x16 y17 h)
        · have h := if_t h h18
          obtain rfl := Option.some.inj h
          exact v_sub [1] rfl hK
  )
  rcases bs_e h with ⟨⟨x20, M21⟩, h24, h⟩ | ⟨⟨x22, M23⟩, h24, h⟩
  · refine v_sub [3, 4, 2, 1, 0] rfl ?_
    refine L19 1000 _ _ h24 ?_
    have h := u2_b h
    show VV X 6 ad cs M21 66 [(2, .int x20)] []
    refine v_goto (pc := 66) (tgt := 75) hX dX9_chooseBetter_66 (by decide) ?_
    refine v_iload_n (pc := 75) 0 hX dX9_chooseBetter_75 rfl ?_
    obtain rfl := Option.some.inj h
    exact v_iret (pc := 76) hX hR dX9_chooseBetter_76
  · refine v_sub [3, 4, 2, 1, 0] rfl ?_
    refine L19 1000 _ _ h24 ?_
    have h := u2_b h
    show VV X 6 ad cs M23 75 [(2, .int x22)] []
    refine v_iload_n (pc := 75) 0 hX dX9_chooseBetter_75 rfl ?_
    obtain rfl := Option.some.inj h
    exact v_iret (pc := 76) hX hR dX9_chooseBetter_76
set_option maxHeartbeats 4000000 in
set_option maxRecDepth 100000 in
theorem c_X4_succeed {ad : Nat → Nat} {cs : List Nat} (hcs : ∀ k, 11 ≤ k → k < 14 → k ∈ cs) (M : Mm) (w1 : Int32) (w2 : Int32) (w3 : Int32) (w4 : Int32) (q : Mm) (h : fX4_succeed M w1 w2 w3 w4 = some q) : CT ad cs yX4_succeed cX4_succeed 5 none 1 26 [.ref (ad 11), .int w1, .int w2, .int w3, .int w4] M none q := by
  refine CT.of RX4 (by decide +kernel) rfl (Nat.le_of_ble_eq_true rfl) (fun X hX hR => ?_)
  unfold fX4_succeed at h
  show VV X 5 ad cs M 0 [(0, .ref (ad 11)), (1, .int w1), (2, .int w2), (3, .int w3), (4, .int w4)] []
  refine v_aload_n (pc := 0) 0 hX dX4_succeed_0 rfl ?_
  refine v_getR (pc := 1) (t := 13) hX (hcs 11 (Nat.le_of_ble_eq_true rfl) (Nat.le_of_ble_eq_true rfl)) sh_11 fl_4_15 rfl dX4_succeed_1 ?_
  refine v_iconst (pc := 4) hX dX4_succeed_4 ic_0 ?_
  refine v_aload_n (pc := 5) 0 hX dX4_succeed_5 rfl ?_
  refine v_getR (pc := 6) (t := 13) hX (hcs 11 (Nat.le_of_ble_eq_true rfl) (Nat.le_of_ble_eq_true rfl)) sh_11 fl_4_15 rfl dX4_succeed_6 ?_
  refine v_iconst (pc := 9) hX dX4_succeed_9 ic_3 ?_
  refine v_bipush (pc := 10) hX dX4_succeed_10 bp_15 ?_
  obtain ⟨M1, eM1, h⟩ := bd_e h
  refine v_copy (pc := 12) hX cm_4_45 (hcs 13 (Nat.le_of_ble_eq_true rfl) (Nat.le_of_ble_eq_true rfl)) (hcs 13 (Nat.le_of_ble_eq_true rfl) (Nat.le_of_ble_eq_true rfl)) sh_13 sh_13 nn_0 nn_3 nn_15 ix_0 ix_3 ix_15 (by decide) (by decide) (Nat.le_of_ble_eq_true rfl) (Nat.le_of_ble_eq_true rfl) dX4_succeed_12 eM1 ?_
  refine v_aload_n (pc := 15) 0 hX dX4_succeed_15 rfl ?_
  refine v_getR (pc := 16) (t := 12) hX (hcs 11 (Nat.le_of_ble_eq_true rfl) (Nat.le_of_ble_eq_true rfl)) sh_11 fl_4_9 rfl dX4_succeed_16 ?_
  refine v_iconst (pc := 19) hX dX4_succeed_19 ic_0 ?_
  refine v_aload_n (pc := 20) 0 hX dX4_succeed_20 rfl ?_
  refine v_getR (pc := 21) (t := 13) hX (hcs 11 (Nat.le_of_ble_eq_true rfl) (Nat.le_of_ble_eq_true rfl)) sh_11 fl_4_15 rfl dX4_succeed_21 ?_
  refine v_iconst (pc := 24) hX dX4_succeed_24 ic_0 ?_
  refine v_iconst (pc := 25) hX dX4_succeed_25 ic_3 ?_
  obtain ⟨M2, eM2, h⟩ := bd_e h
  refine v_copy (pc := 26) hX cm_4_45 (hcs 12 (Nat.le_of_ble_eq_true rfl) (Nat.le_of_ble_eq_true rfl)) (hcs 13 (Nat.le_of_ble_eq_true rfl) (Nat.le_of_ble_eq_true rfl)) sh_12 sh_13 nn_0 nn_0 nn_3 ix_0 ix_0 ix_3 (by decide) (by decide) (Nat.le_of_ble_eq_true rfl) (Nat.le_of_ble_eq_true rfl) dX4_succeed_26 eM2 ?_
  refine v_aload_n (pc := 29) 0 hX dX4_succeed_29 rfl ?_
  refine v_aload_n (pc := 30) 0 hX dX4_succeed_30 rfl ?_
  refine v_getI (pc := 31) hX (hcs 11 (Nat.le_of_ble_eq_true rfl) (Nat.le_of_ble_eq_true rfl)) sh_11 fl_4_38 rfl dX4_succeed_31 ?_
  refine v_iconst (pc := 34) hX dX4_succeed_34 ic_1 ?_
  refine v_iadd (pc := 35) hX dX4_succeed_35 ?_
  refine v_bipush (pc := 36) hX dX4_succeed_36 bp_6 ?_
  refine v_min (pc := 38) hX cm_4_51 (Nat.le_of_ble_eq_true rfl) (Nat.le_of_ble_eq_true rfl) dX4_succeed_38 ?_
  obtain ⟨M3, eM3, h⟩ := bd_e h
  refine v_putI (pc := 41) hX (hcs 11 (Nat.le_of_ble_eq_true rfl) (Nat.le_of_ble_eq_true rfl)) sh_11 pl_4_38 rfl dX4_succeed_41 eM3 ?_
  refine v_aload_n (pc := 44) 0 hX dX4_succeed_44 rfl ?_
  refine v_iload_n (pc := 45) 2 hX dX4_succeed_45 rfl ?_
  refine v_iload_n (pc := 46) 3 hX dX4_succeed_46 rfl ?_
  refine v_iload (pc := 47) 4 hX dX4_succeed_47 rfl ?_
  obtain ⟨M5, h4, h⟩ := b1_e h
  refine v_callV (pc := 49) [.int w2, .int w3, .int w4] none M5 hX cv_4_18 (c_X4_moveTo (sub_cs hcs (Nat.le_of_ble_eq_true rfl) (Nat.le_of_ble_eq_true rfl)) M3 w2 w3 w4 M5 h4) (hcs 11 (Nat.le_of_ble_eq_true rfl) (Nat.le_of_ble_eq_true rfl)) sh_11 rfl rfl rfl ⟨Nat.le_of_ble_eq_true rfl, Nat.le_of_ble_eq_true rfl⟩ (Nat.le_of_ble_eq_true rfl) dX4_succeed_49 ?_
  show VV X 5 ad cs M5 52 [(0, .ref (ad 11)), (1, .int w1), (2, .int w2), (3, .int w3), (4, .int w4)] []
  refine v_aload_n (pc := 52) 0 hX dX4_succeed_52 rfl ?_
  refine v_iconst (pc := 53) hX dX4_succeed_53 ic_2 ?_
  refine v_aload_n (pc := 54) 0 hX dX4_succeed_54 rfl ?_
  refine v_getI (pc := 55) hX (hcs 11 (Nat.le_of_ble_eq_true rfl) (Nat.le_of_ble_eq_true rfl)) sh_11 fl_4_22 rfl dX4_succeed_55 ?_
  refine v_imul (pc := 58) hX dX4_succeed_58 ?_
  refine v_bipush (pc := 59) hX dX4_succeed_59 bp_16 ?_
  refine v_min (pc := 61) hX cm_4_51 (Nat.le_of_ble_eq_true rfl) (Nat.le_of_ble_eq_true rfl) dX4_succeed_61 ?_
  obtain ⟨M6, eM6, h⟩ := bd_e h
  refine v_putI (pc := 64) hX (hcs 11 (Nat.le_of_ble_eq_true rfl) (Nat.le_of_ble_eq_true rfl)) sh_11 pl_4_22 rfl dX4_succeed_64 eM6 ?_
  refine v_aload_n (pc := 67) 0 hX dX4_succeed_67 rfl ?_
  refine v_dup (pc := 68) hX dX4_succeed_68 rfl ?_
  refine v_getI (pc := 69) hX (hcs 11 (Nat.le_of_ble_eq_true rfl) (Nat.le_of_ble_eq_true rfl)) sh_11 fl_4_29 rfl dX4_succeed_69 ?_
  refine v_iconst (pc := 72) hX dX4_succeed_72 ic_1 ?_
  refine v_iadd (pc := 73) hX dX4_succeed_73 ?_
  obtain ⟨M7, eM7, h⟩ := bd_e h
  refine v_putI (pc := 74) hX (hcs 11 (Nat.le_of_ble_eq_true rfl) (Nat.le_of_ble_eq_true rfl)) sh_11 pl_4_29 rfl dX4_succeed_74 eM7 ?_
  refine v_aload_n (pc := 77) 0 hX dX4_succeed_77 rfl ?_
  refine v_iload_n (pc := 78) 1 hX dX4_succeed_78 rfl ?_
  obtain ⟨M8, eM8, h⟩ := bd_e h
  refine v_putI (pc := 79) hX (hcs 11 (Nat.le_of_ble_eq_true rfl) (Nat.le_of_ble_eq_true rfl)) sh_11 pl_4_35 rfl dX4_succeed_79 eM8 ?_
  refine v_aload_n (pc := 82) 0 hX dX4_succeed_82 rfl ?_
  refine v_iconst (pc := 83) hX dX4_succeed_83 ic_0 ?_
  obtain ⟨M9, eM9, h⟩ := bd_e h
  refine v_putZ (pc := 84) hX (hcs 11 (Nat.le_of_ble_eq_true rfl) (Nat.le_of_ble_eq_true rfl)) sh_11 pl_4_41 rfl (Or.inl rfl) dX4_succeed_84 eM9 ?_
  obtain rfl := Option.some.inj h
  exact v_vret (pc := 87) hX hR dX4_succeed_87
set_option maxHeartbeats 4000000 in
set_option maxRecDepth 100000 in
theorem c_X4_fail {ad : Nat → Nat} {cs : List Nat} (hcs : ∀ k, 11 ≤ k → k < 12 → k ∈ cs) (M : Mm) (q : Mm) (h : fX4_fail M = some q) : CT ad cs yX4_fail cX4_fail 1 none 1 21 [.ref (ad 11)] M none q := by
  refine CT.of RX4 (by decide +kernel) rfl (Nat.le_of_ble_eq_true rfl) (fun X hX hR => ?_)
  unfold fX4_fail at h
  show VV X 1 ad cs M 0 [(0, .ref (ad 11))] []
  refine v_aload_n (pc := 0) 0 hX dX4_fail_0 rfl ?_
  refine v_aload_n (pc := 1) 0 hX dX4_fail_1 rfl ?_
  refine v_getI (pc := 2) hX (hcs 11 (Nat.le_of_ble_eq_true rfl) (Nat.le_of_ble_eq_true rfl)) sh_11 fl_4_22 rfl dX4_fail_2 ?_
  refine v_iconst (pc := 5) hX dX4_fail_5 ic_1 ?_
  obtain ⟨k1, ek1, h⟩ := bd_e h
  have K2 : ∀ (x3 : Int32), k1 x3 = some q → VV X 1 ad cs M 14 [(0, .ref (ad 11))] [.int x3, .ref (ad 11)] := by
    intro x3 h
    subst ek1
    obtain ⟨g4, h⟩ := gd_e h
    obtain ⟨M5, eM5, h⟩ := bd_e h
    refine v_putZ (pc := 14) hX (hcs 11 (Nat.le_of_ble_eq_true rfl) (Nat.le_of_ble_eq_true rfl)) sh_11 pl_4_41 rfl g4 dX4_fail_14 eM5 ?_
    refine v_aload_n (pc := 17) 0 hX dX4_fail_17 rfl ?_
    refine v_aload_n (pc := 18) 0 hX dX4_fail_18 rfl ?_
    refine v_getI (pc := 19) hX (hcs 11 (Nat.le_of_ble_eq_true rfl) (Nat.le_of_ble_eq_true rfl)) sh_11 fl_4_22 rfl dX4_fail_19 ?_
    refine v_iconst (pc := 22) hX dX4_fail_22 ic_2 ?_
    refine v_idiv (pc := 23) hX dX4_fail_23 (by decide) ?_
    refine v_iconst (pc := 24) hX dX4_fail_24 ic_1 ?_
    refine v_max (pc := 25) hX cm_4_57 (Nat.le_of_ble_eq_true rfl) (Nat.le_of_ble_eq_true rfl) dX4_fail_25 ?_
    obtain ⟨M6, eM6, h⟩ := bd_e h
    refine v_putI (pc := 28) hX (hcs 11 (Nat.le_of_ble_eq_true rfl) (Nat.le_of_ble_eq_true rfl)) sh_11 pl_4_22 rfl dX4_fail_28 eM6 ?_
    obtain rfl := Option.some.inj h
    exact v_vret (pc := 31) hX hR dX4_fail_31
  refine v_icmp_ne (pc := 6) (tgt := 13) hX dX4_fail_6 (by decide) (fun h7 => ?_) (fun h7 => ?_)
  · have h := if_f h h7
    refine v_iconst (pc := 13) hX dX4_fail_13 ic_0 ?_
    exact v_sub [0] rfl (K2 0 h)
  · have h := if_t h h7
    refine v_iconst (pc := 9) hX dX4_fail_9 ic_1 ?_
    refine v_goto (pc := 10) (tgt := 14) hX dX4_fail_10 (by decide) ?_
    exact v_sub [0] rfl (K2 1 h)
set_option maxHeartbeats 4000000 in
set_option maxRecDepth 100000 in
theorem c_X6_pollOnce {ad : Nat → Nat} {cs : List Nat} (hcs : ∀ k, 1 ≤ k → k < 90 → k ∈ cs) (M : Mm) (q : Int32 × Mm) (h : fX6_pollOnce M = some q) : CT ad cs yX6_pollOnce cX6_pollOnce 4 (some .int) 4 103 [.ref (ad 1), .ref (ad 86)] M (some (.int q.1)) q.2 := by
  refine CT.of RX6 (by decide +kernel) rfl (Nat.le_of_ble_eq_true rfl) (fun X hX hR => ?_)
  unfold fX6_pollOnce at h
  show VV X 4 ad cs M 0 [(0, .ref (ad 1)), (1, .ref (ad 86))] []
  refine v_aload_n (pc := 0) 1 hX dX6_pollOnce_0 rfl ?_
  refine v_aload_n (pc := 1) 0 hX dX6_pollOnce_1 rfl ?_
  refine v_aload_n (pc := 2) 0 hX dX6_pollOnce_2 rfl ?_
  refine v_getR (pc := 3) (t := 11) hX (hcs 1 (Nat.le_of_ble_eq_true rfl) (Nat.le_of_ble_eq_true rfl)) sh_1 fl_6_35 rfl dX6_pollOnce_3 ?_
  refine v_getI (pc := 6) hX (hcs 11 (Nat.le_of_ble_eq_true rfl) (Nat.le_of_ble_eq_true rfl)) sh_11 fl_6_101 rfl dX6_pollOnce_6 ?_
  obtain ⟨M2, h1, h⟩ := b1_e h
  refine v_callV (pc := 9) [.ref (ad 1), .int (M.1 11 1)] none M2 hX cv_6_104 (c_X9_gather (sub_cs hcs (Nat.le_of_ble_eq_true rfl) (Nat.le_of_ble_eq_true rfl)) M (M.1 11 1) M2 h1) (hcs 86 (Nat.le_of_ble_eq_true rfl) (Nat.le_of_ble_eq_true rfl)) sh_86 rfl rfl rfl ⟨Nat.le_of_ble_eq_true rfl, Nat.le_of_ble_eq_true rfl⟩ (Nat.le_of_ble_eq_true rfl) dX6_pollOnce_9 ?_
  show VV X 4 ad cs M2 12 [(0, .ref (ad 1)), (1, .ref (ad 86))] []
  refine v_aload_n (pc := 12) 1 hX dX6_pollOnce_12 rfl ?_
  refine v_aload_n (pc := 13) 0 hX dX6_pollOnce_13 rfl ?_
  refine v_getI (pc := 14) hX (hcs 1 (Nat.le_of_ble_eq_true rfl) (Nat.le_of_ble_eq_true rfl)) sh_1 fl_6_46 rfl dX6_pollOnce_14 ?_
  obtain ⟨x4, M5, h3, h⟩ := b2_e h
  refine v_callV (pc := 17) [.int (M2.1 1 2)] (some (.int x4)) M5 hX cv_6_110 (c_X9_chooseBetter (sub_cs hcs (Nat.le_of_ble_eq_true rfl) (Nat.le_of_ble_eq_true rfl)) M2 (M2.1 1 2) (x4, M5) h3) (hcs 86 (Nat.le_of_ble_eq_true rfl) (Nat.le_of_ble_eq_true rfl)) sh_86 rfl rfl rfl ⟨Nat.le_of_ble_eq_true rfl, Nat.le_of_ble_eq_true rfl⟩ (Nat.le_of_ble_eq_true rfl) dX6_pollOnce_17 ?_
  show VV X 4 ad cs M5 20 [(0, .ref (ad 1)), (1, .ref (ad 86))] [.int x4]
  refine v_istore_n (pc := 20) [(2, .int x4), (0, .ref (ad 1)), (1, .ref (ad 86))] hX dX6_pollOnce_20 (by decide) rfl ?_
  refine v_aload_n (pc := 21) 1 hX dX6_pollOnce_21 rfl ?_
  refine v_getR (pc := 22) (t := 11) hX (hcs 1 (Nat.le_of_ble_eq_true rfl) (Nat.le_of_ble_eq_true rfl)) sh_1 fl_6_35 rfl dX6_pollOnce_22 ?_
  refine v_dup (pc := 25) hX dX6_pollOnce_25 rfl ?_
  refine v_getI (pc := 26) hX (hcs 11 (Nat.le_of_ble_eq_true rfl) (Nat.le_of_ble_eq_true rfl)) sh_11 fl_6_114 rfl dX6_pollOnce_26 ?_
  refine v_iconst (pc := 29) hX dX6_pollOnce_29 ic_1 ?_
  refine v_iadd (pc := 30) hX dX6_pollOnce_30 ?_
  obtain ⟨M6, eM6, h⟩ := bd_e h
  refine v_putI (pc := 31) hX (hcs 11 (Nat.le_of_ble_eq_true rfl) (Nat.le_of_ble_eq_true rfl)) sh_11 pl_6_114 rfl dX6_pollOnce_31 eM6 ?_
  refine v_aload_n (pc := 34) 1 hX dX6_pollOnce_34 rfl ?_
  refine v_getR (pc := 35) (t := 11) hX (hcs 1 (Nat.le_of_ble_eq_true rfl) (Nat.le_of_ble_eq_true rfl)) sh_1 fl_6_35 rfl dX6_pollOnce_35 ?_
  refine v_dup (pc := 38) hX dX6_pollOnce_38 rfl ?_
  refine v_getI (pc := 39) hX (hcs 11 (Nat.le_of_ble_eq_true rfl) (Nat.le_of_ble_eq_true rfl)) sh_11 fl_6_117 rfl dX6_pollOnce_39 ?_
  refine v_aload_n (pc := 42) 2 hX dX6_pollOnce_42 rfl ?_
  refine v_getI (pc := 43) hX (hcs 86 (Nat.le_of_ble_eq_true rfl) (Nat.le_of_ble_eq_true rfl)) sh_86 fl_6_120 rfl dX6_pollOnce_43 ?_
  refine v_iadd (pc := 46) hX dX6_pollOnce_46 ?_
  obtain ⟨M7, eM7, h⟩ := bd_e h
  refine v_putI (pc := 47) hX (hcs 11 (Nat.le_of_ble_eq_true rfl) (Nat.le_of_ble_eq_true rfl)) sh_11 pl_6_117 rfl dX6_pollOnce_47 eM7 ?_
  refine v_iload_n (pc := 50) 0 hX dX6_pollOnce_50 rfl ?_
  refine v_iconst (pc := 51) hX dX6_pollOnce_51 ic_m1 ?_
  refine v_icmp_ne (pc := 52) (tgt := 64) hX dX6_pollOnce_52 (by decide) (fun h8 => ?_) (fun h8 => ?_)
  · have h := if_f h h8
    refine v_aload_n (pc := 64) 1 hX dX6_pollOnce_64 rfl ?_
    refine v_getR (pc := 65) (t := 11) hX (hcs 1 (Nat.le_of_ble_eq_true rfl) (Nat.le_of_ble_eq_true rfl)) sh_1 fl_6_35 rfl dX6_pollOnce_65 ?_
    refine v_getI (pc := 68) hX (hcs 11 (Nat.le_of_ble_eq_true rfl) (Nat.le_of_ble_eq_true rfl)) sh_11 fl_6_101 rfl dX6_pollOnce_68 ?_
    obtain ⟨x9, ex9, h⟩ := bd_e h
    refine v_top ex9 ?_
    refine v_istore_n (pc := 71) [(3, .int x9), (2, .int x4), (0, .ref (ad 1)), (1, .ref (ad 86))] hX dX6_pollOnce_71 (by decide) rfl ?_
    refine v_aload_n (pc := 72) 2 hX dX6_pollOnce_72 rfl ?_
    refine v_getR (pc := 73) (t := 8) hX (hcs 1 (Nat.le_of_ble_eq_true rfl) (Nat.le_of_ble_eq_true rfl)) sh_1 fl_6_28 rfl dX6_pollOnce_73 ?_
    refine v_getR (pc := 76) (t := 10) hX (hcs 8 (Nat.le_of_ble_eq_true rfl) (Nat.le_of_ble_eq_true rfl)) sh_8 fl_6_124 rfl dX6_pollOnce_76 ?_
    refine v_iload_n (pc := 79) 1 hX dX6_pollOnce_79 rfl ?_
    refine v_dup2 (pc := 80) hX dX6_pollOnce_80 rfl rfl ?_
    obtain ⟨g10, h⟩ := gd_e h
    refine v_iald (pc := 81) hX (hcs 10 (Nat.le_of_ble_eq_true rfl) (Nat.le_of_ble_eq_true rfl)) sh_10 g10 rfl dX6_pollOnce_81 ?_
    refine v_iconst (pc := 82) hX dX6_pollOnce_82 ic_1 ?_
    refine v_iadd (pc := 83) hX dX6_pollOnce_83 ?_
    obtain ⟨M11, eM11, h⟩ := bd_e h
    refine v_iast (pc := 84) hX (hcs 10 (Nat.le_of_ble_eq_true rfl) (Nat.le_of_ble_eq_true rfl)) sh_10 g10 rfl dX6_pollOnce_84 eM11 ?_
    refine v_aload_n (pc := 85) 2 hX dX6_pollOnce_85 rfl ?_
    refine v_getR (pc := 86) (t := 11) hX (hcs 1 (Nat.le_of_ble_eq_true rfl) (Nat.le_of_ble_eq_true rfl)) sh_1 fl_6_35 rfl dX6_pollOnce_86 ?_
    refine v_iload_n (pc := 89) 1 hX dX6_pollOnce_89 rfl ?_
    refine v_aload_n (pc := 90) 2 hX dX6_pollOnce_90 rfl ?_
    refine v_iload_n (pc := 91) 1 hX dX6_pollOnce_91 rfl ?_
    refine v_iconst (pc := 92) hX dX6_pollOnce_92 ic_0 ?_
    refine v_iload_n (pc := 93) 0 hX dX6_pollOnce_93 rfl ?_
    obtain ⟨x13, h12, h⟩ := b1_e h
    refine v_callV (pc := 94) [.int x4, .int 0, .int x9] (some (.int x13)) M11 hX cv_6_127 (c_X6_trialNumber (sub_cs hcs (Nat.le_of_ble_eq_true rfl) (Nat.le_of_ble_eq_true rfl)) M11 x4 0 x9 x13 h12) (hcs 1 (Nat.le_of_ble_eq_true rfl) (Nat.le_of_ble_eq_true rfl)) sh_1 rfl rfl rfl ⟨Nat.le_of_ble_eq_true rfl, Nat.le_of_ble_eq_true rfl⟩ (Nat.le_of_ble_eq_true rfl) dX6_pollOnce_94 ?_
    show VV X 4 ad cs M11 97 [(3, .int x9), (2, .int x4), (0, .ref (ad 1)), (1, .ref (ad 86))] [.int x13, .int x4, .ref (ad 11)]
    refine v_aload_n (pc := 97) 2 hX dX6_pollOnce_97 rfl ?_
    refine v_iload_n (pc := 98) 1 hX dX6_pollOnce_98 rfl ?_
    refine v_iconst (pc := 99) hX dX6_pollOnce_99 ic_1 ?_
    refine v_iload_n (pc := 100) 0 hX dX6_pollOnce_100 rfl ?_
    obtain ⟨x15, h14, h⟩ := b1_e h
    refine v_callV (pc := 101) [.int x4, .int 1, .int x9] (some (.int x15)) M11 hX cv_6_127 (c_X6_trialNumber (sub_cs hcs (Nat.le_of_ble_eq_true rfl) (Nat.le_of_ble_eq_true rfl)) M11 x4 1 x9 x15 h14) (hcs 1 (Nat.le_of_ble_eq_true rfl) (Nat.le_of_ble_eq_true rfl)) sh_1 rfl rfl rfl ⟨Nat.le_of_ble_eq_true rfl, Nat.le_of_ble_eq_true rfl⟩ (Nat.le_of_ble_eq_true rfl) dX6_pollOnce_101 ?_
    show VV X 4 ad cs M11 104 [(3, .int x9), (2, .int x4), (0, .ref (ad 1)), (1, .ref (ad 86))] [.int x15, .int x13, .int x4, .ref (ad 11)]
    refine v_aload_n (pc := 104) 2 hX dX6_pollOnce_104 rfl ?_
    refine v_iload_n (pc := 105) 1 hX dX6_pollOnce_105 rfl ?_
    refine v_iconst (pc := 106) hX dX6_pollOnce_106 ic_2 ?_
    refine v_iload_n (pc := 107) 0 hX dX6_pollOnce_107 rfl ?_
    obtain ⟨x17, h16, h⟩ := b1_e h
    refine v_callV (pc := 108) [.int x4, .int 2, .int x9] (some (.int x17)) M11 hX cv_6_127 (c_X6_trialNumber (sub_cs hcs (Nat.le_of_ble_eq_true rfl) (Nat.le_of_ble_eq_true rfl)) M11 x4 2 x9 x17 h16) (hcs 1 (Nat.le_of_ble_eq_true rfl) (Nat.le_of_ble_eq_true rfl)) sh_1 rfl rfl rfl ⟨Nat.le_of_ble_eq_true rfl, Nat.le_of_ble_eq_true rfl⟩ (Nat.le_of_ble_eq_true rfl) dX6_pollOnce_108 ?_
    show VV X 4 ad cs M11 111 [(3, .int x9), (2, .int x4), (0, .ref (ad 1)), (1, .ref (ad 86))] [.int x17, .int x15, .int x13, .int x4, .ref (ad 11)]
    obtain ⟨M19, h18, h⟩ := b1_e h
    refine v_callV (pc := 111) [.int x4, .int x13, .int x15, .int x17] none M19 hX cv_6_131 (c_X4_succeed (sub_cs hcs (Nat.le_of_ble_eq_true rfl) (Nat.le_of_ble_eq_true rfl)) M11 x4 x13 x15 x17 M19 h18) (hcs 11 (Nat.le_of_ble_eq_true rfl) (Nat.le_of_ble_eq_true rfl)) sh_11 rfl rfl rfl ⟨Nat.le_of_ble_eq_true rfl, Nat.le_of_ble_eq_true rfl⟩ (Nat.le_of_ble_eq_true rfl) dX6_pollOnce_111 ?_
    show VV X 4 ad cs M19 114 [(3, .int x9), (2, .int x4), (0, .ref (ad 1)), (1, .ref (ad 86))] []
    refine v_iload_n (pc := 114) 1 hX dX6_pollOnce_114 rfl ?_
    obtain rfl := Option.some.inj h
    exact v_iret (pc := 115) hX hR dX6_pollOnce_115
  · have h := if_t h h8
    refine v_aload_n (pc := 55) 1 hX dX6_pollOnce_55 rfl ?_
    refine v_getR (pc := 56) (t := 11) hX (hcs 1 (Nat.le_of_ble_eq_true rfl) (Nat.le_of_ble_eq_true rfl)) sh_1 fl_6_35 rfl dX6_pollOnce_56 ?_
    obtain ⟨M21, h20, h⟩ := b1_e h
    refine v_callV (pc := 59) [] none M21 hX cv_6_121 (c_X4_fail (sub_cs hcs (Nat.le_of_ble_eq_true rfl) (Nat.le_of_ble_eq_true rfl)) M7 M21 h20) (hcs 11 (Nat.le_of_ble_eq_true rfl) (Nat.le_of_ble_eq_true rfl)) sh_11 rfl rfl rfl ⟨Nat.le_of_ble_eq_true rfl, Nat.le_of_ble_eq_true rfl⟩ (Nat.le_of_ble_eq_true rfl) dX6_pollOnce_59 ?_
    show VV X 4 ad cs M21 62 [(2, .int x4), (0, .ref (ad 1)), (1, .ref (ad 86))] []
    refine v_iconst (pc := 62) hX dX6_pollOnce_62 ic_m1 ?_
    obtain rfl := Option.some.inj h
    exact v_iret (pc := 63) hX hR dX6_pollOnce_63
set_option maxHeartbeats 4000000 in
set_option maxRecDepth 100000 in
theorem c_X10_run {ad : Nat → Nat} {cs : List Nat} (hcs : ∀ k, 0 ≤ k → k < 90 → k ∈ cs) (M : Mm) (w1 : Int32) (q : Int32 × Mm) (h : fX10_run M w1 = some q) : CT ad cs yX10_run cX10_run 3 (some .int) 5 126 [.ref (ad 0), .int w1] M (some (.int q.1)) q.2 := by
  refine CT.of RX10 (by decide +kernel) rfl (Nat.le_of_ble_eq_true rfl) (fun X hX hR => ?_)
  unfold fX10_run at h
  show VV X 3 ad cs M 0 [(0, .ref (ad 0)), (1, .int w1)] []
  refine v_iload_n (pc := 0) 1 hX dX10_run_0 rfl ?_
  refine v_iconst (pc := 1) hX dX10_run_1 ic_1 ?_
  refine v_bipush (pc := 2) hX dX10_run_2 bp_60 ?_
  obtain ⟨x2, h1, h⟩ := b1_e h
  refine v_callS (pc := 4) [.int w1, .int 1, .int 60] (some (.int x2)) M hX cv_10_62 (c_X10_within M w1 1 60 x2 h1) rfl rfl ⟨Nat.le_of_ble_eq_true rfl, Nat.le_of_ble_eq_true rfl⟩ (Nat.le_of_ble_eq_true rfl) dX10_run_4 ?_
  show VV X 3 ad cs M 7 [(0, .ref (ad 0)), (1, .int w1)] [.int x2]
  refine v_if_ne (pc := 7) (tgt := 13) hX dX10_run_7 (by decide) (fun h3 => ?_) (fun h3 => ?_)
  · have h := if_f h h3
    refine v_aload_n (pc := 13) 0 hX dX10_run_13 rfl ?_
    refine v_getR (pc := 14) (t := 1) hX (hcs 0 (Nat.le_of_ble_eq_true rfl) (Nat.le_of_ble_eq_true rfl)) sh_0 fl_10_10 rfl dX10_run_14 ?_
    obtain ⟨x5, h4, h⟩ := b1_e h
    refine v_callV (pc := 17) [] (some (.int x5)) M hX cv_10_160 (c_X6_canPoll (sub_cs hcs (Nat.le_of_ble_eq_true rfl) (Nat.le_of_ble_eq_true rfl)) M x5 h4) (hcs 1 (Nat.le_of_ble_eq_true rfl) (Nat.le_of_ble_eq_true rfl)) sh_1 rfl rfl rfl ⟨Nat.le_of_ble_eq_true rfl, Nat.le_of_ble_eq_true rfl⟩ (Nat.le_of_ble_eq_true rfl) dX10_run_17 ?_
    show VV X 3 ad cs M 20 [(0, .ref (ad 0)), (1, .int w1)] [.int x5]
    refine v_if_ne (pc := 20) (tgt := 26) hX dX10_run_20 (by decide) (fun h6 => ?_) (fun h6 => ?_)
    · have h := if_f h h6
      refine v_aload_n (pc := 26) 0 hX dX10_run_26 rfl ?_
      refine v_getR (pc := 27) (t := 14) hX (hcs 0 (Nat.le_of_ble_eq_true rfl) (Nat.le_of_ble_eq_true rfl)) sh_0 fl_10_23 rfl dX10_run_27 ?_
      refine v_aload_n (pc := 30) 0 hX dX10_run_30 rfl ?_
      refine v_getR (pc := 31) (t := 1) hX (hcs 0 (Nat.le_of_ble_eq_true rfl) (Nat.le_of_ble_eq_true rfl)) sh_0 fl_10_10 rfl dX10_run_31 ?_
      obtain ⟨M8, h7, h⟩ := b1_e h
      refine v_callV (pc := 34) [.ref (ad 1)] none M8 hX cv_10_71 (c_X2_push (sub_cs hcs (Nat.le_of_ble_eq_true rfl) (Nat.le_of_ble_eq_true rfl)) M M8 h7) (hcs 14 (Nat.le_of_ble_eq_true rfl) (Nat.le_of_ble_eq_true rfl)) sh_14 rfl rfl rfl ⟨Nat.le_of_ble_eq_true rfl, Nat.le_of_ble_eq_true rfl⟩ (Nat.le_of_ble_eq_true rfl) dX10_run_34 ?_
      show VV X 3 ad cs M8 37 [(0, .ref (ad 0)), (1, .int w1)] []
      refine v_iconst (pc := 37) hX dX10_run_37 ic_0 ?_
      refine v_istore_n (pc := 38) [(2, .int 0), (0, .ref (ad 0)), (1, .int w1)] hX dX10_run_38 (by decide) rfl ?_
      have L17 := v_itr (fX10_run_L39 w1) (fun z => VV X 3 ad cs z.2 39 [(0, .ref (ad 0)), (1, .int w1), (2, .int z.1)] []) (fun z => VV X 3 ad cs z.2 72 [(2, .int z.1)] []) (by
        rintro ⟨x9, M10⟩ q h hK
        unfold fX10_run_L39 at h
        have h := u2_b h
        show VV X 3 ad cs M10 39 [(0, .ref (ad 0)), (1, .int w1), (2, .int x9)] []
        refine v_aload_n (pc := 39) 0 hX dX10_run_39 rfl ?_
        refine v_getR (pc := 40) (t := 1) hX (hcs 0 (Nat.le_of_ble_eq_true rfl) (Nat.le_of_ble_eq_true rfl)) sh_0 fl_10_10 rfl dX10_run_40 ?_
        refine v_aload_n (pc := 43) 0 hX dX10_run_43 rfl ?_
        refine v_getR (pc := 44) (t := 86) hX (hcs 0 (Nat.le_of_ble_eq_true rfl) (Nat.le_of_ble_eq_true rfl)) sh_0 fl_10_44 rfl dX10_run_44 ?_
        obtain ⟨x12, M13, h11, h⟩ := b2_e h
        refine v_callV (pc := 47) [.ref (ad 86)] (some (.int x12)) M13 hX cv_10_163 (c_X6_pollOnce (sub_cs hcs (Nat.le_of_ble_eq_true rfl) (Nat.le_of_ble_eq_true rfl)) M10 (x12, M13) h11) (hcs 1 (Nat.le_of_ble_eq_true rfl) (Nat.le_of_ble_eq_true rfl)) sh_1 rfl rfl rfl ⟨Nat.le_of_ble_eq_true rfl, Nat.le_of_ble_eq_true rfl⟩ (Nat.le_of_ble_eq_true rfl) dX10_run_47 ?_
        show VV X 3 ad cs M13 50 [(0, .ref (ad 0)), (1, .int w1), (2, .int x9)] [.int x12]
        refine v_pop (pc := 50) hX dX10_run_50 rfl ?_
        obtain ⟨x14, ex14, h⟩ := bd_e h
        refine v_iinc (v := x14) (pc := 51) 2 [(2, .int x14), (0, .ref (ad 0)), (1, .int w1)] hX dX10_run_51 rfl (ex14.trans (by rw [ic_1])) (by decide) rfl ?_
        refine v_iload_n (pc := 54) 0 hX dX10_run_54 rfl ?_
        refine v_iload_n (pc := 55) 2 hX dX10_run_55 rfl ?_
        refine v_icmp_ge (pc := 56) (tgt := 72) hX dX10_run_56 (by decide) (fun h15 => ?_) (fun h15 => ?_)
        · have h := if_t h h15
          obtain rfl := Option.some.inj h
          exact v_sub [0] rfl hK
        · have h := if_f h h15
          refine v_aload_n (pc := 59) 1 hX dX10_run_59 rfl ?_
          refine v_getR (pc := 60) (t := 1) hX (hcs 0 (Nat.le_of_ble_eq_true rfl) (Nat.le_of_ble_eq_true rfl)) sh_0 fl_10_10 rfl dX10_run_60 ?_
          refine v_getR (pc := 63) (t := 11) hX (hcs 1 (Nat.le_of_ble_eq_true rfl) (Nat.le_of_ble_eq_true rfl)) sh_1 fl_10_139 rfl dX10_run_63 ?_
          refine v_getI (pc := 66) hX (hcs 11 (Nat.le_of_ble_eq_true rfl) (Nat.le_of_ble_eq_true rfl)) sh_11 fl_10_167 rfl dX10_run_66 ?_
          refine v_if_eq (pc := 69) (tgt := 39) hX dX10_run_69 (by decide) (fun h16 => ?_) (fun h16 => ?_)
          · have h := if_t h h16
            obtain rfl := Option.some.inj h
            exact v_sub [1, 2, 0] rfl hK
          · have h := if_f h h16
            obtain rfl := Option.some.inj h
            exact v_sub [0] rfl hK
      )
      obtain ⟨x18, M19, h20, h⟩ := b2_e h
      refine v_sub [1, 2, 0] rfl ?_
      refine L17 1000 _ _ h20 ?_
      show VV X 3 ad cs M19 72 [(2, .int x18)] []
      refine v_iload_n (pc := 72) 0 hX dX10_run_72 rfl ?_
      obtain rfl := Option.some.inj h
      exact v_iret (pc := 73) hX hR dX10_run_73
    · have h := if_t h h6
      refine v_ldc (pc := 23) hX kc_10_93 dX10_run_23 ?_
      obtain rfl := Option.some.inj h
      exact v_iret (pc := 25) hX hR dX10_run_25
  · have h := if_t h h3
    refine v_ldc (pc := 10) hX kc_10_66 dX10_run_10 ?_
    obtain rfl := Option.some.inj h
    exact v_iret (pc := 12) hX hR dX10_run_12
set_option maxHeartbeats 4000000 in
set_option maxRecDepth 100000 in
theorem c_X9_isBetter {ad : Nat → Nat} {cs : List Nat} (hcs : ∀ k, 86 ≤ k → k < 90 → k ∈ cs) (M : Mm) (w1 : Int32) (q : Int32) (h : fX9_isBetter M w1 = some q) : CT ad cs yX9_isBetter cX9_isBetter 2 (some .boolean) 0 0 [.ref (ad 86), .int w1] M (some (.int q)) M := by
  refine CT.of RX9 (by decide +kernel) rfl (Nat.le_of_ble_eq_true rfl) (fun X hX hR => ?_)
  unfold fX9_isBetter at h
  show VV X 2 ad cs M 0 [(0, .ref (ad 86)), (1, .int w1)] []
  refine v_aload_n (pc := 0) 0 hX dX9_isBetter_0 rfl ?_
  refine v_getR (pc := 1) (t := 89) hX (hcs 86 (Nat.le_of_ble_eq_true rfl) (Nat.le_of_ble_eq_true rfl)) sh_86 fl_9_19 rfl dX9_isBetter_1 ?_
  refine v_iload_n (pc := 4) 1 hX dX9_isBetter_4 rfl ?_
  obtain ⟨g1, h⟩ := gd_e h
  refine v_lald (pc := 5) hX (hcs 89 (Nat.le_of_ble_eq_true rfl) (Nat.le_of_ble_eq_true rfl)) sh_89 g1 rfl dX9_isBetter_5 ?_
  refine v_aload_n (pc := 6) 0 hX dX9_isBetter_6 rfl ?_
  refine v_getL (pc := 7) hX (hcs 86 (Nat.le_of_ble_eq_true rfl) (Nat.le_of_ble_eq_true rfl)) sh_86 fl_9_32 rfl dX9_isBetter_7 ?_
  refine v_lcmp (pc := 10) hX dX9_isBetter_10 ?_
  refine v_if_ge (pc := 11) (tgt := 18) hX dX9_isBetter_11 (by decide) (fun h2 => ?_) (fun h2 => ?_)
  · have h := if_t h h2
    refine v_iconst (pc := 18) hX dX9_isBetter_18 ic_0 ?_
    obtain rfl := Option.some.inj h
    exact v_zret (pc := 19) hX hR (Or.inl rfl) dX9_isBetter_19
  · have h := if_f h h2
    refine v_iconst (pc := 14) hX dX9_isBetter_14 ic_1 ?_
    refine v_goto (pc := 15) (tgt := 19) hX dX9_isBetter_15 (by decide) ?_
    obtain rfl := Option.some.inj h
    exact v_zret (pc := 19) hX hR (Or.inr rfl) dX9_isBetter_19
set_option maxHeartbeats 4000000 in
set_option maxRecDepth 100000 in
theorem c_X9_noneIsBetter {ad : Nat → Nat} {cs : List Nat} (hcs : ∀ k, 86 ≤ k → k < 90 → k ∈ cs) (M : Mm) (q : Int32) (h : fX9_noneIsBetter M = some q) : CT ad cs yX9_noneIsBetter cX9_noneIsBetter 2 (some .boolean) 1 21 [.ref (ad 86)] M (some (.int q)) M := by
  refine CT.of RX9 (by decide +kernel) rfl (Nat.le_of_ble_eq_true rfl) (fun X hX hR => ?_)
  unfold fX9_noneIsBetter at h
  show VV X 2 ad cs M 0 [(0, .ref (ad 86))] []
  refine v_iconst (pc := 0) hX dX9_noneIsBetter_0 ic_0 ?_
  refine v_istore_n (pc := 1) [(1, .int 0), (0, .ref (ad 86))] hX dX9_noneIsBetter_1 (by decide) rfl ?_
  have L7 := v_itr (fX9_noneIsBetter_L2 M) (fun z => VV X 2 ad cs M 2 [(0, .ref (ad 86)), (1, .int z)] []) (Sum.elim (fun z => VV X 2 ad cs M 18 [] []) (fun z => VV X 2 ad cs M 26 [] [])) (by
    rintro x1 q h hK
    unfold fX9_noneIsBetter_L2 at h
    show VV X 2 ad cs M 2 [(0, .ref (ad 86)), (1, .int x1)] []
    refine v_iload_n (pc := 2) 1 hX dX9_noneIsBetter_2 rfl ?_
    refine v_aload_n (pc := 3) 0 hX dX9_noneIsBetter_3 rfl ?_
    refine v_getI (pc := 4) hX (hcs 86 (Nat.le_of_ble_eq_true rfl) (Nat.le_of_ble_eq_true rfl)) sh_86 fl_9_22 rfl dX9_noneIsBetter_4 ?_
    refine v_icmp_ge (pc := 7) (tgt := 26) hX dX9_noneIsBetter_7 (by decide) (fun h2 => ?_) (fun h2 => ?_)
    · have h := if_t h h2
      obtain rfl := Option.some.inj h
      exact v_sub [] rfl hK
    · have h := if_f h h2
      refine v_aload_n (pc := 10) 0 hX dX9_noneIsBetter_10 rfl ?_
      refine v_iload_n (pc := 11) 1 hX dX9_noneIsBetter_11 rfl ?_
      obtain ⟨x4, h3, h⟩ := b1_e h
      refine v_callV (pc := 12) [.int x1] (some (.int x4)) M hX cv_9_72 (c_X9_isBetter (sub_cs hcs (Nat.le_of_ble_eq_true rfl) (Nat.le_of_ble_eq_true rfl)) M x1 x4 h3) (hcs 86 (Nat.le_of_ble_eq_true rfl) (Nat.le_of_ble_eq_true rfl)) sh_86 rfl rfl rfl ⟨Nat.le_of_ble_eq_true rfl, Nat.le_of_ble_eq_true rfl⟩ (Nat.le_of_ble_eq_true rfl) dX9_noneIsBetter_12 ?_
      show VV X 2 ad cs M 15 [(0, .ref (ad 86)), (1, .int x1)] [.int x4]
      refine v_if_eq (pc := 15) (tgt := 20) hX dX9_noneIsBetter_15 (by decide) (fun h5 => ?_) (fun h5 => ?_)
      · have h := if_t h h5
        obtain ⟨x6, ex6, h⟩ := bd_e h
        refine v_iinc (v := x6) (pc := 20) 1 [(1, .int x6), (0, .ref (ad 86))] hX dX9_noneIsBetter_20 rfl (ex6.trans (by rw [ic_1])) (by decide) rfl ?_
        refine v_goto (pc := 23) (tgt := 2) hX dX9_noneIsBetter_23 (by decide) ?_
        obtain rfl := Option.some.inj h
        exact v_sub [1, 0] rfl hK
      · have h := if_f h h5
        obtain rfl := Option.some.inj h
        exact v_sub [] rfl hK
  )
  rcases bs_e h with ⟨_, h8, h⟩ | ⟨_, h8, h⟩
  · refine v_sub [1, 0] rfl ?_
    refine L7 1000 _ _ h8 ?_
    show VV X 2 ad cs M 18 [] []
    refine v_iconst (pc := 18) hX dX9_noneIsBetter_18 ic_0 ?_
    obtain rfl := Option.some.inj h
    exact v_zret (pc := 19) hX hR (Or.inl rfl) dX9_noneIsBetter_19
  · refine v_sub [1, 0] rfl ?_
    refine L7 1000 _ _ h8 ?_
    show VV X 2 ad cs M 26 [] []
    refine v_iconst (pc := 26) hX dX9_noneIsBetter_26 ic_1 ?_
    obtain rfl := Option.some.inj h
    exact v_zret (pc := 27) hX hR (Or.inr rfl) dX9_noneIsBetter_27
set_option maxHeartbeats 4000000 in
set_option maxRecDepth 100000 in
theorem c_X10_stuck {ad : Nat → Nat} {cs : List Nat} (hcs : ∀ k, 0 ≤ k → k < 90 → k ∈ cs) (M : Mm) (w1 : Int32) (q : Int32 × Mm) (h : fX10_stuck M w1 = some q) : CT ad cs yX10_stuck cX10_stuck 2 (some .int) 4 103 [.ref (ad 0), .int w1] M (some (.int q.1)) q.2 := by
  refine CT.of RX10 (by decide +kernel) rfl (Nat.le_of_ble_eq_true rfl) (fun X hX hR => ?_)
  unfold fX10_stuck at h
  show VV X 2 ad cs M 0 [(0, .ref (ad 0)), (1, .int w1)] []
  refine v_iload_n (pc := 0) 1 hX dX10_stuck_0 rfl ?_
  refine v_iconst (pc := 1) hX dX10_stuck_1 ic_0 ?_
  refine v_iconst (pc := 2) hX dX10_stuck_2 ic_4 ?_
  obtain ⟨x2, h1, h⟩ := b1_e h
  refine v_callS (pc := 3) [.int w1, .int 0, .int 4] (some (.int x2)) M hX cv_10_62 (c_X10_within M w1 0 4 x2 h1) rfl rfl ⟨Nat.le_of_ble_eq_true rfl, Nat.le_of_ble_eq_true rfl⟩ (Nat.le_of_ble_eq_true rfl) dX10_stuck_3 ?_
  show VV X 2 ad cs M 6 [(0, .ref (ad 0)), (1, .int w1)] [.int x2]
  refine v_if_ne (pc := 6) (tgt := 12) hX dX10_stuck_6 (by decide) (fun h3 => ?_) (fun h3 => ?_)
  · have h := if_f h h3
    refine v_aload_n (pc := 12) 0 hX dX10_stuck_12 rfl ?_
    refine v_getR (pc := 13) (t := 1) hX (hcs 0 (Nat.le_of_ble_eq_true rfl) (Nat.le_of_ble_eq_true rfl)) sh_0 fl_10_10 rfl dX10_stuck_13 ?_
    obtain ⟨x5, h4, h⟩ := b1_e h
    refine v_callV (pc := 16) [] (some (.int x5)) M hX cv_10_117 (c_X6_placeIsAllowed (sub_cs hcs (Nat.le_of_ble_eq_true rfl) (Nat.le_of_ble_eq_true rfl)) M x5 h4) (hcs 1 (Nat.le_of_ble_eq_true rfl) (Nat.le_of_ble_eq_true rfl)) sh_1 rfl rfl rfl ⟨Nat.le_of_ble_eq_true rfl, Nat.le_of_ble_eq_true rfl⟩ (Nat.le_of_ble_eq_true rfl) dX10_stuck_16 ?_
    show VV X 2 ad cs M 19 [(0, .ref (ad 0)), (1, .int w1)] [.int x5]
    refine v_if_ne (pc := 19) (tgt := 25) hX dX10_stuck_19 (by decide) (fun h6 => ?_) (fun h6 => ?_)
    · have h := if_f h h6
      refine v_aload_n (pc := 25) 0 hX dX10_stuck_25 rfl ?_
      refine v_getR (pc := 26) (t := 86) hX (hcs 0 (Nat.le_of_ble_eq_true rfl) (Nat.le_of_ble_eq_true rfl)) sh_0 fl_10_44 rfl dX10_stuck_26 ?_
      refine v_aload_n (pc := 29) 0 hX dX10_stuck_29 rfl ?_
      refine v_getR (pc := 30) (t := 1) hX (hcs 0 (Nat.le_of_ble_eq_true rfl) (Nat.le_of_ble_eq_true rfl)) sh_0 fl_10_10 rfl dX10_stuck_30 ?_
      refine v_iconst (pc := 33) hX dX10_stuck_33 ic_1 ?_
      refine v_iload_n (pc := 34) 1 hX dX10_stuck_34 rfl ?_
      refine v_ishl (pc := 35) hX dX10_stuck_35 ?_
      obtain ⟨M8, h7, h⟩ := b1_e h
      refine v_callV (pc := 36) [.ref (ad 1), .int (1 <<< (w1 &&& 31))] none M8 hX cv_10_220 (c_X9_gather (sub_cs hcs (Nat.le_of_ble_eq_true rfl) (Nat.le_of_ble_eq_true rfl)) M (1 <<< (w1 &&& 31)) M8 h7) (hcs 86 (Nat.le_of_ble_eq_true rfl) (Nat.le_of_ble_eq_true rfl)) sh_86 rfl rfl rfl ⟨Nat.le_of_ble_eq_true rfl, Nat.le_of_ble_eq_true rfl⟩ (Nat.le_of_ble_eq_true rfl) dX10_stuck_36 ?_
      show VV X 2 ad cs M8 39 [(0, .ref (ad 0)), (1, .int w1)] []
      refine v_aload_n (pc := 39) 0 hX dX10_stuck_39 rfl ?_
      refine v_getR (pc := 40) (t := 86) hX (hcs 0 (Nat.le_of_ble_eq_true rfl) (Nat.le_of_ble_eq_true rfl)) sh_0 fl_10_44 rfl dX10_stuck_40 ?_
      obtain ⟨x10, h9, h⟩ := b1_e h
      refine v_callV (pc := 43) [] (some (.int x10)) M8 hX cv_10_234 (c_X9_noneIsBetter (sub_cs hcs (Nat.le_of_ble_eq_true rfl) (Nat.le_of_ble_eq_true rfl)) M8 x10 h9) (hcs 86 (Nat.le_of_ble_eq_true rfl) (Nat.le_of_ble_eq_true rfl)) sh_86 rfl rfl rfl ⟨Nat.le_of_ble_eq_true rfl, Nat.le_of_ble_eq_true rfl⟩ (Nat.le_of_ble_eq_true rfl) dX10_stuck_43 ?_
      show VV X 2 ad cs M8 46 [(0, .ref (ad 0)), (1, .int w1)] [.int x10]
      obtain ⟨x12, h11, h⟩ := b1_e h
      refine v_callS (pc := 46) [.int x10] (some (.int x12)) M8 hX cv_10_121 (c_X10_oneIf M8 x10 x12 h11) rfl rfl ⟨Nat.le_of_ble_eq_true rfl, Nat.le_of_ble_eq_true rfl⟩ (Nat.le_of_ble_eq_true rfl) dX10_stuck_46 ?_
      show VV X 2 ad cs M8 49 [(0, .ref (ad 0)), (1, .int w1)] [.int x12]
      obtain rfl := Option.some.inj h
      exact v_iret (pc := 49) hX hR dX10_stuck_49
    · have h := if_t h h6
      refine v_ldc (pc := 22) hX kc_10_93 dX10_stuck_22 ?_
      obtain rfl := Option.some.inj h
      exact v_iret (pc := 24) hX hR dX10_stuck_24
  · have h := if_t h h3
    refine v_ldc (pc := 9) hX kc_10_66 dX10_stuck_9 ?_
    obtain rfl := Option.some.inj h
    exact v_iret (pc := 11) hX hR dX10_stuck_11
set_option maxHeartbeats 4000000 in
set_option maxRecDepth 100000 in
theorem c_L_here {ad : Nat → Nat} {cs : List Nat} (hcs : ∀ k, 0 ≤ k → k < 13 → k ∈ cs) (M : Mm) (q : Int64) (h : fL_here M = some q) : CT ad cs yL_here cL_here 1 (some .long) 3 78 [.ref (ad 0)] M (some (.long q)) M := by
  refine CT.of RL (by decide +kernel) rfl (Nat.le_of_ble_eq_true rfl) (fun X hX hR => ?_)
  unfold fL_here at h
  show VV X 1 ad cs M 0 [(0, .ref (ad 0))] []
  refine v_aload_n (pc := 0) 0 hX dL_here_0 rfl ?_
  refine v_aload_n (pc := 1) 0 hX dL_here_1 rfl ?_
  refine v_iconst (pc := 2) hX dL_here_2 ic_0 ?_
  obtain ⟨x2, h1, h⟩ := b1_e h
  refine v_callV (pc := 3) [.int 0] (some (.int x2)) M hX cv_L_55 (c_X10_searchOf (sub_cs hcs (Nat.le_of_ble_eq_true rfl) (Nat.le_of_ble_eq_true rfl)) M 0 x2 h1) (hcs 0 (Nat.le_of_ble_eq_true rfl) (Nat.le_of_ble_eq_true rfl)) sh_0 rfl rfl rfl ⟨Nat.le_of_ble_eq_true rfl, Nat.le_of_ble_eq_true rfl⟩ (Nat.le_of_ble_eq_true rfl) dL_here_3 ?_
  show VV X 1 ad cs M 6 [(0, .ref (ad 0))] [.int x2, .ref (ad 0)]
  refine v_aload_n (pc := 6) 0 hX dL_here_6 rfl ?_
  refine v_iconst (pc := 7) hX dL_here_7 ic_1 ?_
  obtain ⟨x4, h3, h⟩ := b1_e h
  refine v_callV (pc := 8) [.int 1] (some (.int x4)) M hX cv_L_55 (c_X10_searchOf (sub_cs hcs (Nat.le_of_ble_eq_true rfl) (Nat.le_of_ble_eq_true rfl)) M 1 x4 h3) (hcs 0 (Nat.le_of_ble_eq_true rfl) (Nat.le_of_ble_eq_true rfl)) sh_0 rfl rfl rfl ⟨Nat.le_of_ble_eq_true rfl, Nat.le_of_ble_eq_true rfl⟩ (Nat.le_of_ble_eq_true rfl) dL_here_8 ?_
  show VV X 1 ad cs M 11 [(0, .ref (ad 0))] [.int x4, .int x2, .ref (ad 0)]
  refine v_aload_n (pc := 11) 0 hX dL_here_11 rfl ?_
  refine v_iconst (pc := 12) hX dL_here_12 ic_2 ?_
  obtain ⟨x6, h5, h⟩ := b1_e h
  refine v_callV (pc := 13) [.int 2] (some (.int x6)) M hX cv_L_55 (c_X10_searchOf (sub_cs hcs (Nat.le_of_ble_eq_true rfl) (Nat.le_of_ble_eq_true rfl)) M 2 x6 h5) (hcs 0 (Nat.le_of_ble_eq_true rfl) (Nat.le_of_ble_eq_true rfl)) sh_0 rfl rfl rfl ⟨Nat.le_of_ble_eq_true rfl, Nat.le_of_ble_eq_true rfl⟩ (Nat.le_of_ble_eq_true rfl) dL_here_13 ?_
  show VV X 1 ad cs M 16 [(0, .ref (ad 0))] [.int x6, .int x4, .int x2, .ref (ad 0)]
  refine v_iconst (pc := 16) hX dL_here_16 ic_0 ?_
  obtain ⟨y8, h7, h⟩ := b1_e h
  refine v_callV (pc := 17) [.int x2, .int x4, .int x6, .int 0] (some (.long y8)) M hX cv_L_69 (c_X10_value (sub_cs hcs (Nat.le_of_ble_eq_true rfl) (Nat.le_of_ble_eq_true rfl)) M x2 x4 x6 0 y8 h7) (hcs 0 (Nat.le_of_ble_eq_true rfl) (Nat.le_of_ble_eq_true rfl)) sh_0 rfl rfl rfl ⟨Nat.le_of_ble_eq_true rfl, Nat.le_of_ble_eq_true rfl⟩ (Nat.le_of_ble_eq_true rfl) dL_here_17 ?_
  show VV X 1 ad cs M 20 [(0, .ref (ad 0))] [.long y8]
  obtain rfl := Option.some.inj h
  exact v_lret (pc := 20) hX hR dL_here_20
