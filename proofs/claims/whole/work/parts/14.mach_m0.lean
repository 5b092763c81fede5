set_option maxHeartbeats 4000000 in
set_option maxRecDepth 100000 in
theorem c_X11_in {ad : Nat → Nat} {cs : List Nat} (M : Mm) (w0 : Int32) (w1 : Int32) (w2 : Int32) (q : Int32) (h : fX11_in w0 w1 w2 = some q) : CT ad cs yX11_in cX11_in 3 (some .boolean) 0 0 [.int w0, .int w1, .int w2] M (some (.int q)) M := by
  refine CT.of RX11 (by decide +kernel) rfl (Nat.le_of_ble_eq_true rfl) (fun X hX hR => ?_)
  unfold fX11_in at h
  show VV X 3 ad cs M 0 [(0, .int w0), (1, .int w1), (2, .int w2)] []
  refine v_iload_n (pc := 0) 0 hX dX11_in_0 rfl ?_
  refine v_iload_n (pc := 1) 1 hX dX11_in_1 rfl ?_
  refine v_icmp_lt (pc := 2) (tgt := 14) hX dX11_in_2 (by decide) (fun h1 => ?_) (fun h1 => ?_)
  · have h := if_t h h1
    refine v_iconst (pc := 14) hX dX11_in_14 ic_0 ?_
    obtain rfl := Option.some.inj h
    exact v_zret (pc := 15) hX hR (Or.inl rfl) dX11_in_15
  · have h := if_f h h1
    refine v_iload_n (pc := 5) 0 hX dX11_in_5 rfl ?_
    refine v_iload_n (pc := 6) 2 hX dX11_in_6 rfl ?_
    refine v_icmp_gt (pc := 7) (tgt := 14) hX dX11_in_7 (by decide) (fun h2 => ?_) (fun h2 => ?_)
    · have h := if_t h h2
      refine v_iconst (pc := 14) hX dX11_in_14 ic_0 ?_
      obtain rfl := Option.some.inj h
      exact v_zret (pc := 15) hX hR (Or.inl rfl) dX11_in_15
    · have h := if_f h h2
      refine v_iconst (pc := 10) hX dX11_in_10 ic_1 ?_
      refine v_goto (pc := 11) (tgt := 15) hX dX11_in_11 (by decide) ?_
      obtain rfl := Option.some.inj h
      exact v_zret (pc := 15) hX hR (Or.inr rfl) dX11_in_15
set_option maxHeartbeats 4000000 in
set_option maxRecDepth 100000 in
theorem c_X11_record {ad : Nat → Nat} {cs : List Nat} (hcs : ∀ k, 95 ≤ k → k < 98 → k ∈ cs) (M : Mm) (q : Mm) (h : fX11_record M = some q) : CT ad cs yX11_record cX11_record 2 none 0 0 [.ref (ad 95)] M none q := by
  refine CT.of RX11 (by decide +kernel) rfl (Nat.le_of_ble_eq_true rfl) (fun X hX hR => ?_)
  unfold fX11_record at h
  show VV X 2 ad cs M 0 [(0, .ref (ad 95))] []
  refine v_aload_n (pc := 0) 0 hX dX11_record_0 rfl ?_
  refine v_getI (pc := 1) hX (hcs 95 (Nat.le_of_ble_eq_true rfl) (Nat.le_of_ble_eq_true rfl)) sh_95 fl_11_36 rfl dX11_record_1 ?_
  refine v_iconst (pc := 4) hX dX11_record_4 ic_4 ?_
  obtain ⟨k1, ek1, h⟩ := bd_e h
  have K2 : ∀ (M3 : Mm), k1 M3 = some q → VV X 2 ad cs M3 48 [(0, .ref (ad 95))] [] := by
    intro M3 h
    subst ek1
    refine v_iconst (pc := 48) hX dX11_record_48 ic_0 ?_
    refine v_istore_n (pc := 49) [(1, .int 0), (0, .ref (ad 95))] hX dX11_record_49 (by decide) rfl ?_
    have L11 := v_itr (fX11_record_L50) (fun z => VV X 2 ad cs z.2 50 [(0, .ref (ad 95)), (1, .int z.1)] []) (fun z => VV X 2 ad cs z 82 [(0, .ref (ad 95))] []) (by
      rintro ⟨x4, M5⟩ q h hK
      unfold fX11_record_L50 at h
      have h := u2_b h
      show VV X 2 ad cs M5 50 [(0, .ref (ad 95)), (1, .int x4)] []
      refine v_iload_n (pc := 50) 1 hX dX11_record_50 rfl ?_
      refine v_bipush (pc := 51) hX dX11_record_51 bp_111 ?_
      refine v_icmp_ge (pc := 53) (tgt := 82) hX dX11_record_53 (by decide) (fun h6 => ?_) (fun h6 => ?_)
      · have h := if_t h h6
        obtain rfl := Option.some.inj h
        exact v_sub [0] rfl hK
      · have h := if_f h h6
        refine v_aload_n (pc := 56) 0 hX dX11_record_56 rfl ?_
        refine v_getR (pc := 57) (t := 97) hX (hcs 95 (Nat.le_of_ble_eq_true rfl) (Nat.le_of_ble_eq_true rfl)) sh_95 fl_11_13 rfl dX11_record_57 ?_
        refine v_aload_n (pc := 60) 0 hX dX11_record_60 rfl ?_
        refine v_getI (pc := 61) hX (hcs 95 (Nat.le_of_ble_eq_true rfl) (Nat.le_of_ble_eq_true rfl)) sh_95 fl_11_36 rfl dX11_record_61 ?_
        refine v_bipush (pc := 64) hX dX11_record_64 bp_111 ?_
        refine v_imul (pc := 66) hX dX11_record_66 ?_
        refine v_iload_n (pc := 67) 1 hX dX11_record_67 rfl ?_
        refine v_iadd (pc := 68) hX dX11_record_68 ?_
        refine v_aload_n (pc := 69) 0 hX dX11_record_69 rfl ?_
        refine v_getR (pc := 70) (t := 96) hX (hcs 95 (Nat.le_of_ble_eq_true rfl) (Nat.le_of_ble_eq_true rfl)) sh_95 fl_11_7 rfl dX11_record_70 ?_
        refine v_iload_n (pc := 73) 1 hX dX11_record_73 rfl ?_
        obtain ⟨g7, h⟩ := gd_e h
        refine v_iald (pc := 74) hX (hcs 96 (Nat.le_of_ble_eq_true rfl) (Nat.le_of_ble_eq_true rfl)) sh_96 g7 rfl dX11_record_74 ?_
        obtain ⟨g8, h⟩ := gd_e h
        obtain ⟨M9, eM9, h⟩ := bd_e h
        refine v_iast (pc := 75) hX (hcs 97 (Nat.le_of_ble_eq_true rfl) (Nat.le_of_ble_eq_true rfl)) sh_97 g8 rfl dX11_record_75 eM9 ?_
        obtain ⟨x10, ex10, h⟩ := bd_e h
        refine v_iinc (v := x10) (pc := 76) 1 [(1, .int x10), (0, .ref (ad 95))] hX dX11_record_76 rfl (ex10.trans (by rw [ic_1])) (by decide) rfl ?_
        refine v_goto (pc := 79) (tgt := 50) hX dX11_record_79 (by decide) ?_
        obtain rfl := Option.some.inj h
        exact v_sub [1, 0] rfl hK
    )
    obtain ⟨M12, h14, h⟩ := b1_e h
    refine v_sub [1, 0] rfl ?_
    refine L11 1000 _ _ h14 ?_
    show VV X 2 ad cs M12 82 [(0, .ref (ad 95))] []
    refine v_aload_n (pc := 82) 0 hX dX11_record_82 rfl ?_
    refine v_dup (pc := 83) hX dX11_record_83 rfl ?_
    refine v_getI (pc := 84) hX (hcs 95 (Nat.le_of_ble_eq_true rfl) (Nat.le_of_ble_eq_true rfl)) sh_95 fl_11_36 rfl dX11_record_84 ?_
    refine v_iconst (pc := 87) hX dX11_record_87 ic_1 ?_
    refine v_iadd (pc := 88) hX dX11_record_88 ?_
    obtain ⟨M13, eM13, h⟩ := bd_e h
    refine v_putI (pc := 89) hX (hcs 95 (Nat.le_of_ble_eq_true rfl) (Nat.le_of_ble_eq_true rfl)) sh_95 pl_11_36 rfl dX11_record_89 eM13 ?_
    obtain rfl := Option.some.inj h
    exact v_vret (pc := 92) hX hR dX11_record_92
  refine v_icmp_ne (pc := 5) (tgt := 48) hX dX11_record_5 (by decide) (fun h15 => ?_) (fun h15 => ?_)
  · have h := if_f h h15
    exact v_sub [0] rfl (K2 M h)
  · have h := if_t h h15
    refine v_iconst (pc := 8) hX dX11_record_8 ic_0 ?_
    refine v_istore_n (pc := 9) [(1, .int 0), (0, .ref (ad 95))] hX dX11_record_9 (by decide) rfl ?_
    have L23 := v_itr (fX11_record_L10) (fun z => VV X 2 ad cs z.2 10 [(0, .ref (ad 95)), (1, .int z.1)] []) (fun z => VV X 2 ad cs z 38 [(0, .ref (ad 95))] []) (by
      rintro ⟨x16, M17⟩ q h hK
      unfold fX11_record_L10 at h
      have h := u2_b h
      show VV X 2 ad cs M17 10 [(0, .ref (ad 95)), (1, .int x16)] []
      refine v_iload_n (pc := 10) 1 hX dX11_record_10 rfl ?_
      refine v_sipush (pc := 11) hX dX11_record_11 sp_333 ?_
      refine v_icmp_ge (pc := 14) (tgt := 38) hX dX11_record_14 (by decide) (fun h18 => ?_) (fun h18 => ?_)
      · have h := if_t h h18
        obtain rfl := Option.some.inj h
        exact v_sub [0] rfl hK
      · have h := if_f h h18
        refine v_aload_n (pc := 17) 0 hX dX11_record_17 rfl ?_
        refine v_getR (pc := 18) (t := 97) hX (hcs 95 (Nat.le_of_ble_eq_true rfl) (Nat.le_of_ble_eq_true rfl)) sh_95 fl_11_13 rfl dX11_record_18 ?_
        refine v_iload_n (pc := 21) 1 hX dX11_record_21 rfl ?_
        refine v_aload_n (pc := 22) 0 hX dX11_record_22 rfl ?_
        refine v_getR (pc := 23) (t := 97) hX (hcs 95 (Nat.le_of_ble_eq_true rfl) (Nat.le_of_ble_eq_true rfl)) sh_95 fl_11_13 rfl dX11_record_23 ?_
        refine v_iload_n (pc := 26) 1 hX dX11_record_26 rfl ?_
        refine v_bipush (pc := 27) hX dX11_record_27 bp_111 ?_
        refine v_iadd (pc := 29) hX dX11_record_29 ?_
        obtain ⟨g19, h⟩ := gd_e h
        refine v_iald (pc := 30) hX (hcs 97 (Nat.le_of_ble_eq_true rfl) (Nat.le_of_ble_eq_true rfl)) sh_97 g19 rfl dX11_record_30 ?_
        obtain ⟨g20, h⟩ := gd_e h
        obtain ⟨M21, eM21, h⟩ := bd_e h
        refine v_iast (pc := 31) hX (hcs 97 (Nat.le_of_ble_eq_true rfl) (Nat.le_of_ble_eq_true rfl)) sh_97 g20 rfl dX11_record_31 eM21 ?_
        obtain ⟨x22, ex22, h⟩ := bd_e h
        refine v_iinc (v := x22) (pc := 32) 1 [(1, .int x22), (0, .ref (ad 95))] hX dX11_record_32 rfl (ex22.trans (by rw [ic_1])) (by decide) rfl ?_
        refine v_goto (pc := 35) (tgt := 10) hX dX11_record_35 (by decide) ?_
        obtain rfl := Option.some.inj h
        exact v_sub [1, 0] rfl hK
    )
    obtain ⟨M24, h26, h⟩ := b1_e h
    refine v_sub [1, 0] rfl ?_
    refine L23 1000 _ _ h26 ?_
    show VV X 2 ad cs M24 38 [(0, .ref (ad 95))] []
    refine v_aload_n (pc := 38) 0 hX dX11_record_38 rfl ?_
    refine v_dup (pc := 39) hX dX11_record_39 rfl ?_
    refine v_getI (pc := 40) hX (hcs 95 (Nat.le_of_ble_eq_true rfl) (Nat.le_of_ble_eq_true rfl)) sh_95 fl_11_36 rfl dX11_record_40 ?_
    refine v_iconst (pc := 43) hX dX11_record_43 ic_1 ?_
    refine v_isub (pc := 44) hX dX11_record_44 ?_
    obtain ⟨M25, eM25, h⟩ := bd_e h
    refine v_putI (pc := 45) hX (hcs 95 (Nat.le_of_ble_eq_true rfl) (Nat.le_of_ble_eq_true rfl)) sh_95 pl_11_36 rfl dX11_record_45 eM25 ?_
    exact v_sub [0] rfl (K2 M25 h)
set_option maxHeartbeats 4000000 in
set_option maxRecDepth 100000 in
theorem c_X11_begin {ad : Nat → Nat} {cs : List Nat} (hcs : ∀ k, 95 ≤ k → k < 97 → k ∈ cs) (M : Mm) (w1 : Int32) (q : Mm) (h : fX11_begin M w1 = some q) : CT ad cs yX11_begin cX11_begin 3 none 0 0 [.ref (ad 95), .int w1] M none q := by
  refine CT.of RX11 (by decide +kernel) rfl (Nat.le_of_ble_eq_true rfl) (fun X hX hR => ?_)
  unfold fX11_begin at h
  show VV X 3 ad cs M 0 [(0, .ref (ad 95)), (1, .int w1)] []
  refine v_iconst (pc := 0) hX dX11_begin_0 ic_0 ?_
  refine v_istore_n (pc := 1) [(2, .int 0), (0, .ref (ad 95)), (1, .int w1)] hX dX11_begin_1 (by decide) rfl ?_
  have L7 := v_itr (fX11_begin_L2) (fun z => VV X 3 ad cs z.2 2 [(0, .ref (ad 95)), (1, .int w1), (2, .int z.1)] []) (fun z => VV X 3 ad cs z 21 [(0, .ref (ad 95)), (1, .int w1)] []) (by
    rintro ⟨x1, M2⟩ q h hK
    unfold fX11_begin_L2 at h
    have h := u2_b h
    show VV X 3 ad cs M2 2 [(0, .ref (ad 95)), (1, .int w1), (2, .int x1)] []
    refine v_iload_n (pc := 2) 2 hX dX11_begin_2 rfl ?_
    refine v_bipush (pc := 3) hX dX11_begin_3 bp_111 ?_
    refine v_icmp_ge (pc := 5) (tgt := 21) hX dX11_begin_5 (by decide) (fun h3 => ?_) (fun h3 => ?_)
    · have h := if_t h h3
      obtain rfl := Option.some.inj h
      exact v_sub [0, 1] rfl hK
    · have h := if_f h h3
      refine v_aload_n (pc := 8) 0 hX dX11_begin_8 rfl ?_
      refine v_getR (pc := 9) (t := 96) hX (hcs 95 (Nat.le_of_ble_eq_true rfl) (Nat.le_of_ble_eq_true rfl)) sh_95 fl_11_7 rfl dX11_begin_9 ?_
      refine v_iload_n (pc := 12) 2 hX dX11_begin_12 rfl ?_
      refine v_iconst (pc := 13) hX dX11_begin_13 ic_0 ?_
      obtain ⟨g4, h⟩ := gd_e h
      obtain ⟨M5, eM5, h⟩ := bd_e h
      refine v_iast (pc := 14) hX (hcs 96 (Nat.le_of_ble_eq_true rfl) (Nat.le_of_ble_eq_true rfl)) sh_96 g4 rfl dX11_begin_14 eM5 ?_
      obtain ⟨x6, ex6, h⟩ := bd_e h
      refine v_iinc (v := x6) (pc := 15) 2 [(2, .int x6), (0, .ref (ad 95)), (1, .int w1)] hX dX11_begin_15 rfl (ex6.trans (by rw [ic_1])) (by decide) rfl ?_
      refine v_goto (pc := 18) (tgt := 2) hX dX11_begin_18 (by decide) ?_
      obtain rfl := Option.some.inj h
      exact v_sub [1, 2, 0] rfl hK
  )
  obtain ⟨M8, h35, h⟩ := b1_e h
  refine v_sub [1, 2, 0] rfl ?_
  refine L7 1000 _ _ h35 ?_
  show VV X 3 ad cs M8 21 [(0, .ref (ad 95)), (1, .int w1)] []
  refine v_aload_n (pc := 21) 0 hX dX11_begin_21 rfl ?_
  refine v_getR (pc := 22) (t := 96) hX (hcs 95 (Nat.le_of_ble_eq_true rfl) (Nat.le_of_ble_eq_true rfl)) sh_95 fl_11_7 rfl dX11_begin_22 ?_
  refine v_iconst (pc := 25) hX dX11_begin_25 ic_0 ?_
  refine v_iload_n (pc := 26) 1 hX dX11_begin_26 rfl ?_
  obtain ⟨M9, eM9, h⟩ := bd_e h
  refine v_iast (pc := 27) hX (hcs 96 (Nat.le_of_ble_eq_true rfl) (Nat.le_of_ble_eq_true rfl)) sh_96 (ib_0 (by decide)) ix_0 dX11_begin_27 eM9 ?_
  refine v_aload_n (pc := 28) 0 hX dX11_begin_28 rfl ?_
  refine v_getR (pc := 29) (t := 96) hX (hcs 95 (Nat.le_of_ble_eq_true rfl) (Nat.le_of_ble_eq_true rfl)) sh_95 fl_11_7 rfl dX11_begin_29 ?_
  refine v_iconst (pc := 32) hX dX11_begin_32 ic_3 ?_
  refine v_iconst (pc := 33) hX dX11_begin_33 ic_2 ?_
  obtain ⟨M10, eM10, h⟩ := bd_e h
  refine v_iast (pc := 34) hX (hcs 96 (Nat.le_of_ble_eq_true rfl) (Nat.le_of_ble_eq_true rfl)) sh_96 (ib_3 (by decide)) ix_3 dX11_begin_34 eM10 ?_
  refine v_aload_n (pc := 35) 0 hX dX11_begin_35 rfl ?_
  refine v_getR (pc := 36) (t := 96) hX (hcs 95 (Nat.le_of_ble_eq_true rfl) (Nat.le_of_ble_eq_true rfl)) sh_95 fl_11_7 rfl dX11_begin_36 ?_
  refine v_bipush (pc := 39) hX dX11_begin_39 bp_9 ?_
  refine v_iconst (pc := 41) hX dX11_begin_41 ic_m1 ?_
  obtain ⟨M11, eM11, h⟩ := bd_e h
  refine v_iast (pc := 42) hX (hcs 96 (Nat.le_of_ble_eq_true rfl) (Nat.le_of_ble_eq_true rfl)) sh_96 (ib_9 (by decide)) ix_9 dX11_begin_42 eM11 ?_
  refine v_iconst (pc := 43) hX dX11_begin_43 ic_0 ?_
  refine v_istore_n (pc := 44) [(2, .int 0), (0, .ref (ad 95)), (1, .int w1)] hX dX11_begin_44 (by decide) rfl ?_
  have L20 := v_itr (fX11_begin_L45) (fun z => VV X 3 ad cs z.2 45 [(0, .ref (ad 95)), (1, .int w1), (2, .int z.1)] []) (fun z => VV X 3 ad cs z 78 [(0, .ref (ad 95)), (1, .int w1)] []) (by
    rintro ⟨x12, M13⟩ q h hK
    unfold fX11_begin_L45 at h
    have h := u2_b h
    show VV X 3 ad cs M13 45 [(0, .ref (ad 95)), (1, .int w1), (2, .int x12)] []
    refine v_iload_n (pc := 45) 2 hX dX11_begin_45 rfl ?_
    refine v_iconst (pc := 46) hX dX11_begin_46 ic_3 ?_
    refine v_icmp_ge (pc := 47) (tgt := 78) hX dX11_begin_47 (by decide) (fun h14 => ?_) (fun h14 => ?_)
    · have h := if_t h h14
      obtain rfl := Option.some.inj h
      exact v_sub [0, 1] rfl hK
    · have h := if_f h h14
      refine v_aload_n (pc := 50) 0 hX dX11_begin_50 rfl ?_
      refine v_getR (pc := 51) (t := 96) hX (hcs 95 (Nat.le_of_ble_eq_true rfl) (Nat.le_of_ble_eq_true rfl)) sh_95 fl_11_7 rfl dX11_begin_51 ?_
      refine v_bipush (pc := 54) hX dX11_begin_54 bp_12 ?_
      refine v_iload_n (pc := 56) 2 hX dX11_begin_56 rfl ?_
      refine v_iadd (pc := 57) hX dX11_begin_57 ?_
      refine v_bipush (pc := 58) hX dX11_begin_58 bp_m50 ?_
      obtain ⟨g15, h⟩ := gd_e h
      obtain ⟨M16, eM16, h⟩ := bd_e h
      refine v_iast (pc := 60) hX (hcs 96 (Nat.le_of_ble_eq_true rfl) (Nat.le_of_ble_eq_true rfl)) sh_96 g15 rfl dX11_begin_60 eM16 ?_
      refine v_aload_n (pc := 61) 0 hX dX11_begin_61 rfl ?_
      refine v_getR (pc := 62) (t := 96) hX (hcs 95 (Nat.le_of_ble_eq_true rfl) (Nat.le_of_ble_eq_true rfl)) sh_95 fl_11_7 rfl dX11_begin_62 ?_
      refine v_bipush (pc := 65) hX dX11_begin_65 bp_15 ?_
      refine v_iload_n (pc := 67) 2 hX dX11_begin_67 rfl ?_
      refine v_iadd (pc := 68) hX dX11_begin_68 ?_
      refine v_bipush (pc := 69) hX dX11_begin_69 bp_50 ?_
      obtain ⟨g17, h⟩ := gd_e h
      obtain ⟨M18, eM18, h⟩ := bd_e h
      refine v_iast (pc := 71) hX (hcs 96 (Nat.le_of_ble_eq_true rfl) (Nat.le_of_ble_eq_true rfl)) sh_96 g17 rfl dX11_begin_71 eM18 ?_
      obtain ⟨x19, ex19, h⟩ := bd_e h
      refine v_iinc (v := x19) (pc := 72) 2 [(2, .int x19), (0, .ref (ad 95)), (1, .int w1)] hX dX11_begin_72 rfl (ex19.trans (by rw [ic_1])) (by decide) rfl ?_
      refine v_goto (pc := 75) (tgt := 45) hX dX11_begin_75 (by decide) ?_
      obtain rfl := Option.some.inj h
      exact v_sub [1, 2, 0] rfl hK
  )
  obtain ⟨M21, h34, h⟩ := b1_e h
  refine v_sub [1, 2, 0] rfl ?_
  refine L20 1000 _ _ h34 ?_
  show VV X 3 ad cs M21 78 [(0, .ref (ad 95)), (1, .int w1)] []
  refine v_iconst (pc := 78) hX dX11_begin_78 ic_0 ?_
  refine v_istore_n (pc := 79) [(2, .int 0), (0, .ref (ad 95)), (1, .int w1)] hX dX11_begin_79 (by decide) rfl ?_
  have L30 := v_itr (fX11_begin_L80 w1) (fun z => VV X 3 ad cs z.2 80 [(0, .ref (ad 95)), (1, .int w1), (2, .int z.1)] []) (fun z => VV X 3 ad cs z 123 [(0, .ref (ad 95)), (1, .int w1)] []) (by
    rintro ⟨x22, M23⟩ q h hK
    unfold fX11_begin_L80 at h
    have h := u2_b h
    show VV X 3 ad cs M23 80 [(0, .ref (ad 95)), (1, .int w1), (2, .int x22)] []
    refine v_iload_n (pc := 80) 2 hX dX11_begin_80 rfl ?_
    refine v_iload_n (pc := 81) 1 hX dX11_begin_81 rfl ?_
    refine v_icmp_ge (pc := 82) (tgt := 123) hX dX11_begin_82 (by decide) (fun h24 => ?_) (fun h24 => ?_)
    · have h := if_t h h24
      obtain rfl := Option.some.inj h
      exact v_sub [0, 1] rfl hK
    · have h := if_f h h24
      refine v_aload_n (pc := 85) 0 hX dX11_begin_85 rfl ?_
      refine v_getR (pc := 86) (t := 96) hX (hcs 95 (Nat.le_of_ble_eq_true rfl) (Nat.le_of_ble_eq_true rfl)) sh_95 fl_11_7 rfl dX11_begin_86 ?_
      refine v_bipush (pc := 89) hX dX11_begin_89 bp_61 ?_
      refine v_bipush (pc := 91) hX dX11_begin_91 bp_8 ?_
      refine v_iload_n (pc := 93) 2 hX dX11_begin_93 rfl ?_
      refine v_imul (pc := 94) hX dX11_begin_94 ?_
      refine v_iadd (pc := 95) hX dX11_begin_95 ?_
      refine v_iload_n (pc := 96) 2 hX dX11_begin_96 rfl ?_
      refine v_iadd (pc := 97) hX dX11_begin_97 ?_
      refine v_iconst (pc := 98) hX dX11_begin_98 ic_1 ?_
      obtain ⟨g25, h⟩ := gd_e h
      obtain ⟨M26, eM26, h⟩ := bd_e h
      refine v_iast (pc := 99) hX (hcs 96 (Nat.le_of_ble_eq_true rfl) (Nat.le_of_ble_eq_true rfl)) sh_96 g25 rfl dX11_begin_99 eM26 ?_
      refine v_aload_n (pc := 100) 0 hX dX11_begin_100 rfl ?_
      refine v_getR (pc := 101) (t := 96) hX (hcs 95 (Nat.le_of_ble_eq_true rfl) (Nat.le_of_ble_eq_true rfl)) sh_95 fl_11_7 rfl dX11_begin_101 ?_
      refine v_bipush (pc := 104) hX dX11_begin_104 bp_61 ?_
      refine v_bipush (pc := 106) hX dX11_begin_106 bp_8 ?_
      refine v_iload_n (pc := 108) 2 hX dX11_begin_108 rfl ?_
      refine v_imul (pc := 109) hX dX11_begin_109 ?_
      refine v_iadd (pc := 110) hX dX11_begin_110 ?_
      refine v_iconst (pc := 111) hX dX11_begin_111 ic_4 ?_
      refine v_iadd (pc := 112) hX dX11_begin_112 ?_
      refine v_iload_n (pc := 113) 2 hX dX11_begin_113 rfl ?_
      refine v_iadd (pc := 114) hX dX11_begin_114 ?_
      refine v_iconst (pc := 115) hX dX11_begin_115 ic_m1 ?_
      obtain ⟨g27, h⟩ := gd_e h
      obtain ⟨M28, eM28, h⟩ := bd_e h
      refine v_iast (pc := 116) hX (hcs 96 (Nat.le_of_ble_eq_true rfl) (Nat.le_of_ble_eq_true rfl)) sh_96 g27 rfl dX11_begin_116 eM28 ?_
      obtain ⟨x29, ex29, h⟩ := bd_e h
      refine v_iinc (v := x29) (pc := 117) 2 [(2, .int x29), (0, .ref (ad 95)), (1, .int w1)] hX dX11_begin_117 rfl (ex29.trans (by rw [ic_1])) (by decide) rfl ?_
      refine v_goto (pc := 120) (tgt := 80) hX dX11_begin_120 (by decide) ?_
      obtain rfl := Option.some.inj h
      exact v_sub [1, 2, 0] rfl hK
  )
  obtain ⟨M31, h33, h⟩ := b1_e h
  refine v_sub [1, 2, 0] rfl ?_
  refine L30 1000 _ _ h33 ?_
  show VV X 3 ad cs M31 123 [(0, .ref (ad 95)), (1, .int w1)] []
  refine v_aload_n (pc := 123) 0 hX dX11_begin_123 rfl ?_
  refine v_getR (pc := 124) (t := 96) hX (hcs 95 (Nat.le_of_ble_eq_true rfl) (Nat.le_of_ble_eq_true rfl)) sh_95 fl_11_7 rfl dX11_begin_124 ?_
  refine v_iconst (pc := 127) hX dX11_begin_127 ic_2 ?_
  refine v_iconst (pc := 128) hX dX11_begin_128 ic_2 ?_
  refine v_iload_n (pc := 129) 1 hX dX11_begin_129 rfl ?_
  refine v_imul (pc := 130) hX dX11_begin_130 ?_
  obtain ⟨M32, eM32, h⟩ := bd_e h
  refine v_iast (pc := 131) hX (hcs 96 (Nat.le_of_ble_eq_true rfl) (Nat.le_of_ble_eq_true rfl)) sh_96 (ib_2 (by decide)) ix_2 dX11_begin_131 eM32 ?_
  obtain rfl := Option.some.inj h
  exact v_vret (pc := 132) hX hR dX11_begin_132
set_option maxHeartbeats 4000000 in
set_option maxRecDepth 100000 in
theorem c_X11_variables {ad : Nat → Nat} {cs : List Nat} (hcs : ∀ k, 95 ≤ k → k < 98 → k ∈ cs) (M : Mm) (w1 : Int32) (q : Int32 × Mm) (h : fX11_variables M w1 = some q) : CT ad cs yX11_variables cX11_variables 3 (some .int) 1 22 [.ref (ad 95), .int w1] M (some (.int q.1)) q.2 := by
  refine CT.of RX11 (by decide +kernel) rfl (Nat.le_of_ble_eq_true rfl) (fun X hX hR => ?_)
  unfold fX11_variables at h
  show VV X 3 ad cs M 0 [(0, .ref (ad 95)), (1, .int w1)] []
  refine v_iload_n (pc := 0) 1 hX dX11_variables_0 rfl ?_
  refine v_iconst (pc := 1) hX dX11_variables_1 ic_1 ?_
  refine v_iconst (pc := 2) hX dX11_variables_2 ic_3 ?_
  obtain ⟨x2, h1, h⟩ := b1_e h
  refine v_callS (pc := 3) [.int w1, .int 1, .int 3] (some (.int x2)) M hX cv_11_48 (c_X11_in M w1 1 3 x2 h1) rfl rfl ⟨Nat.le_of_ble_eq_true rfl, Nat.le_of_ble_eq_true rfl⟩ (Nat.le_of_ble_eq_true rfl) dX11_variables_3 ?_
  show VV X 3 ad cs M 6 [(0, .ref (ad 95)), (1, .int w1)] [.int x2]
  refine v_if_ne (pc := 6) (tgt := 12) hX dX11_variables_6 (by decide) (fun h3 => ?_) (fun h3 => ?_)
  · have h := if_f h h3
    refine v_aload_n (pc := 12) 0 hX dX11_variables_12 rfl ?_
    obtain ⟨M5, h4, h⟩ := b1_e h
    refine v_callV (pc := 13) [] none M5 hX cv_11_45 (c_X11_record (sub_cs hcs (Nat.le_of_ble_eq_true rfl) (Nat.le_of_ble_eq_true rfl)) M M5 h4) (hcs 95 (Nat.le_of_ble_eq_true rfl) (Nat.le_of_ble_eq_true rfl)) sh_95 rfl rfl rfl ⟨Nat.le_of_ble_eq_true rfl, Nat.le_of_ble_eq_true rfl⟩ (Nat.le_of_ble_eq_true rfl) dX11_variables_13 ?_
    show VV X 3 ad cs M5 16 [(0, .ref (ad 95)), (1, .int w1)] []
    refine v_aload_n (pc := 16) 0 hX dX11_variables_16 rfl ?_
    refine v_getR (pc := 17) (t := 96) hX (hcs 95 (Nat.le_of_ble_eq_true rfl) (Nat.le_of_ble_eq_true rfl)) sh_95 fl_11_7 rfl dX11_variables_17 ?_
    refine v_iconst (pc := 20) hX dX11_variables_20 ic_0 ?_
    refine v_iald (pc := 21) hX (hcs 96 (Nat.le_of_ble_eq_true rfl) (Nat.le_of_ble_eq_true rfl)) sh_96 (ib_0 (by decide)) ix_0 dX11_variables_21 ?_
    obtain ⟨x6, ex6, h⟩ := bd_e h
    refine v_top ex6 ?_
    refine v_istore_n (pc := 22) [(2, .int x6), (0, .ref (ad 95)), (1, .int w1)] hX dX11_variables_22 (by decide) rfl ?_
    refine v_aload_n (pc := 23) 1 hX dX11_variables_23 rfl ?_
    refine v_iload_n (pc := 24) 2 hX dX11_variables_24 rfl ?_
    obtain ⟨M8, h7, h⟩ := b1_e h
    refine v_callV (pc := 25) [.int w1] none M8 hX cv_11_32 (c_X11_begin (sub_cs hcs (Nat.le_of_ble_eq_true rfl) (Nat.le_of_ble_eq_true rfl)) M5 w1 M8 h7) (hcs 95 (Nat.le_of_ble_eq_true rfl) (Nat.le_of_ble_eq_true rfl)) sh_95 rfl rfl rfl ⟨Nat.le_of_ble_eq_true rfl, Nat.le_of_ble_eq_true rfl⟩ (Nat.le_of_ble_eq_true rfl) dX11_variables_25 ?_
    show VV X 3 ad cs M8 28 [(2, .int x6), (0, .ref (ad 95)), (1, .int w1)] []
    refine v_iload_n (pc := 28) 0 hX dX11_variables_28 rfl ?_
    obtain rfl := Option.some.inj h
    exact v_iret (pc := 29) hX hR dX11_variables_29
  · have h := if_t h h3
    refine v_ldc (pc := 9) hX kc_11_70 dX11_variables_9 ?_
    obtain rfl := Option.some.inj h
    exact v_iret (pc := 11) hX hR dX11_variables_11
set_option maxHeartbeats 4000000 in
set_option maxRecDepth 100000 in
theorem c_X11_areOfVariables {ad : Nat → Nat} {cs : List Nat} (hcs : ∀ k, 95 ≤ k → k < 97 → k ∈ cs) (M : Mm) (w1 : Int32) (w2 : Int32) (w3 : Int32) (q : Int32) (h : fX11_areOfVariables M w1 w2 w3 = some q) : CT ad cs yX11_areOfVariables cX11_areOfVariables 4 (some .boolean) 0 0 [.ref (ad 95), .int w1, .int w2, .int w3] M (some (.int q)) M := by
  refine CT.of RX11 (by decide +kernel) rfl (Nat.le_of_ble_eq_true rfl) (fun X hX hR => ?_)
  unfold fX11_areOfVariables at h
  show VV X 4 ad cs M 0 [(0, .ref (ad 95)), (1, .int w1), (2, .int w2), (3, .int w3)] []
  refine v_aload_n (pc := 0) 0 hX dX11_areOfVariables_0 rfl ?_
  refine v_getR (pc := 1) (t := 96) hX (hcs 95 (Nat.le_of_ble_eq_true rfl) (Nat.le_of_ble_eq_true rfl)) sh_95 fl_11_7 rfl dX11_areOfVariables_1 ?_
  refine v_iconst (pc := 4) hX dX11_areOfVariables_4 ic_0 ?_
  refine v_iald (pc := 5) hX (hcs 96 (Nat.le_of_ble_eq_true rfl) (Nat.le_of_ble_eq_true rfl)) sh_96 (ib_0 (by decide)) ix_0 dX11_areOfVariables_5 ?_
  refine v_iconst (pc := 6) hX dX11_areOfVariables_6 ic_1 ?_
  obtain ⟨k1, ek1, h⟩ := bd_e h
  have K2 : ∀ (_ : Unit), k1 () = some q → VV X 4 ad cs M 14 [(0, .ref (ad 95)), (3, .int w3)] [] := by
    intro _ h
    subst ek1
    refine v_aload_n (pc := 14) 0 hX dX11_areOfVariables_14 rfl ?_
    refine v_getR (pc := 15) (t := 96) hX (hcs 95 (Nat.le_of_ble_eq_true rfl) (Nat.le_of_ble_eq_true rfl)) sh_95 fl_11_7 rfl dX11_areOfVariables_15 ?_
    refine v_iconst (pc := 18) hX dX11_areOfVariables_18 ic_0 ?_
    refine v_iald (pc := 19) hX (hcs 96 (Nat.le_of_ble_eq_true rfl) (Nat.le_of_ble_eq_true rfl)) sh_96 (ib_0 (by decide)) ix_0 dX11_areOfVariables_19 ?_
    refine v_iconst (pc := 20) hX dX11_areOfVariables_20 ic_2 ?_
    refine v_icmp_gt (pc := 21) (tgt := 28) hX dX11_areOfVariables_21 (by decide) (fun h3 => ?_) (fun h3 => ?_)
    · have h := if_t h h3
      refine v_iconst (pc := 28) hX dX11_areOfVariables_28 ic_1 ?_
      refine v_goto (pc := 29) (tgt := 33) hX dX11_areOfVariables_29 (by decide) ?_
      obtain rfl := Option.some.inj h
      exact v_zret (pc := 33) hX hR (Or.inr rfl) dX11_areOfVariables_33
    · have h := if_f h h3
      refine v_iload_n (pc := 24) 1 hX dX11_areOfVariables_24 rfl ?_
      refine v_if_ne (pc := 25) (tgt := 32) hX dX11_areOfVariables_25 (by decide) (fun h4 => ?_) (fun h4 => ?_)
      · have h := if_f h h4
        refine v_iconst (pc := 32) hX dX11_areOfVariables_32 ic_0 ?_
        obtain rfl := Option.some.inj h
        exact v_zret (pc := 33) hX hR (Or.inl rfl) dX11_areOfVariables_33
      · have h := if_t h h4
        refine v_iconst (pc := 28) hX dX11_areOfVariables_28 ic_1 ?_
        refine v_goto (pc := 29) (tgt := 33) hX dX11_areOfVariables_29 (by decide) ?_
        obtain rfl := Option.some.inj h
        exact v_zret (pc := 33) hX hR (Or.inr rfl) dX11_areOfVariables_33
  refine v_icmp_gt (pc := 7) (tgt := 14) hX dX11_areOfVariables_7 (by decide) (fun h5 => ?_) (fun h5 => ?_)
  · have h := if_t h h5
    exact v_sub [0, 3] rfl (K2 () h)
  · have h := if_f h h5
    refine v_iload_n (pc := 10) 2 hX dX11_areOfVariables_10 rfl ?_
    refine v_if_ne (pc := 11) (tgt := 32) hX dX11_areOfVariables_11 (by decide) (fun h6 => ?_) (fun h6 => ?_)
    · have h := if_f h h6
      refine v_iconst (pc := 32) hX dX11_areOfVariables_32 ic_0 ?_
      obtain rfl := Option.some.inj h
      exact v_zret (pc := 33) hX hR (Or.inl rfl) dX11_areOfVariables_33
    · have h := if_t h h6
      exact v_sub [0, 3] rfl (K2 () h)
set_option maxHeartbeats 4000000 in
set_option maxRecDepth 100000 in
theorem c_X11_termMany {ad : Nat → Nat} {cs : List Nat} (hcs : ∀ k, 95 ≤ k → k < 97 → k ∈ cs) (M : Mm) (q : Int32) (h : fX11_termMany M = some q) : CT ad cs yX11_termMany cX11_termMany 1 (some .int) 0 0 [.ref (ad 95)] M (some (.int q)) M := by
  refine CT.of RX11 (by decide +kernel) rfl (Nat.le_of_ble_eq_true rfl) (fun X hX hR => ?_)
  unfold fX11_termMany at h
  show VV X 1 ad cs M 0 [(0, .ref (ad 95))] []
  refine v_aload_n (pc := 0) 0 hX dX11_termMany_0 rfl ?_
  refine v_getR (pc := 1) (t := 96) hX (hcs 95 (Nat.le_of_ble_eq_true rfl) (Nat.le_of_ble_eq_true rfl)) sh_95 fl_11_7 rfl dX11_termMany_1 ?_
  refine v_iconst (pc := 4) hX dX11_termMany_4 ic_1 ?_
  refine v_iald (pc := 5) hX (hcs 96 (Nat.le_of_ble_eq_true rfl) (Nat.le_of_ble_eq_true rfl)) sh_96 (ib_1 (by decide)) ix_1 dX11_termMany_5 ?_
  obtain rfl := Option.some.inj h
  exact v_iret (pc := 6) hX hR dX11_termMany_6
set_option maxHeartbeats 4000000 in
set_option maxRecDepth 100000 in
theorem c_X11_putTerm {ad : Nat → Nat} {cs : List Nat} (hcs : ∀ k, 95 ≤ k → k < 97 → k ∈ cs) (M : Mm) (w1 : Int32) (w2 : Int32) (w3 : Int32) (w4 : Int32) (w5 : Int32) (q : Mm) (h : fX11_putTerm M w1 w2 w3 w4 w5 = some q) : CT ad cs yX11_putTerm cX11_putTerm 6 none 0 0 [.ref (ad 95), .int w1, .int w2, .int w3, .int w4, .int w5] M none q := by
  refine CT.of RX11 (by decide +kernel) rfl (Nat.le_of_ble_eq_true rfl) (fun X hX hR => ?_)
  unfold fX11_putTerm at h
  show VV X 6 ad cs M 0 [(0, .ref (ad 95)), (1, .int w1), (2, .int w2), (3, .int w3), (4, .int w4), (5, .int w5)] []
  refine v_aload_n (pc := 0) 0 hX dX11_putTerm_0 rfl ?_
  refine v_getR (pc := 1) (t := 96) hX (hcs 95 (Nat.le_of_ble_eq_true rfl) (Nat.le_of_ble_eq_true rfl)) sh_95 fl_11_7 rfl dX11_putTerm_1 ?_
  refine v_bipush (pc := 4) hX dX11_putTerm_4 bp_21 ?_
  refine v_iconst (pc := 6) hX dX11_putTerm_6 ic_4 ?_
  refine v_iload_n (pc := 7) 1 hX dX11_putTerm_7 rfl ?_
  refine v_imul (pc := 8) hX dX11_putTerm_8 ?_
  refine v_iadd (pc := 9) hX dX11_putTerm_9 ?_
  refine v_iload_n (pc := 10) 2 hX dX11_putTerm_10 rfl ?_
  obtain ⟨g1, h⟩ := gd_e h
  obtain ⟨M2, eM2, h⟩ := bd_e h
  refine v_iast (pc := 11) hX (hcs 96 (Nat.le_of_ble_eq_true rfl) (Nat.le_of_ble_eq_true rfl)) sh_96 g1 rfl dX11_putTerm_11 eM2 ?_
  refine v_aload_n (pc := 12) 0 hX dX11_putTerm_12 rfl ?_
  refine v_getR (pc := 13) (t := 96) hX (hcs 95 (Nat.le_of_ble_eq_true rfl) (Nat.le_of_ble_eq_true rfl)) sh_95 fl_11_7 rfl dX11_putTerm_13 ?_
  refine v_bipush (pc := 16) hX dX11_putTerm_16 bp_21 ?_
  refine v_iconst (pc := 18) hX dX11_putTerm_18 ic_4 ?_
  refine v_iload_n (pc := 19) 1 hX dX11_putTerm_19 rfl ?_
  refine v_imul (pc := 20) hX dX11_putTerm_20 ?_
  refine v_iadd (pc := 21) hX dX11_putTerm_21 ?_
  refine v_iconst (pc := 22) hX dX11_putTerm_22 ic_1 ?_
  refine v_iadd (pc := 23) hX dX11_putTerm_23 ?_
  refine v_iload_n (pc := 24) 3 hX dX11_putTerm_24 rfl ?_
  obtain ⟨g3, h⟩ := gd_e h
  obtain ⟨M4, eM4, h⟩ := bd_e h
  refine v_iast (pc := 25) hX (hcs 96 (Nat.le_of_ble_eq_true rfl) (Nat.le_of_ble_eq_true rfl)) sh_96 g3 rfl dX11_putTerm_25 eM4 ?_
  refine v_aload_n (pc := 26) 0 hX dX11_putTerm_26 rfl ?_
  refine v_getR (pc := 27) (t := 96) hX (hcs 95 (Nat.le_of_ble_eq_true rfl) (Nat.le_of_ble_eq_true rfl)) sh_95 fl_11_7 rfl dX11_putTerm_27 ?_
  refine v_bipush (pc := 30) hX dX11_putTerm_30 bp_21 ?_
  refine v_iconst (pc := 32) hX dX11_putTerm_32 ic_4 ?_
  refine v_iload_n (pc := 33) 1 hX dX11_putTerm_33 rfl ?_
  refine v_imul (pc := 34) hX dX11_putTerm_34 ?_
  refine v_iadd (pc := 35) hX dX11_putTerm_35 ?_
  refine v_iconst (pc := 36) hX dX11_putTerm_36 ic_2 ?_
  refine v_iadd (pc := 37) hX dX11_putTerm_37 ?_
  refine v_iload (pc := 38) 4 hX dX11_putTerm_38 rfl ?_
  obtain ⟨g5, h⟩ := gd_e h
  obtain ⟨M6, eM6, h⟩ := bd_e h
  refine v_iast (pc := 40) hX (hcs 96 (Nat.le_of_ble_eq_true rfl) (Nat.le_of_ble_eq_true rfl)) sh_96 g5 rfl dX11_putTerm_40 eM6 ?_
  refine v_aload_n (pc := 41) 0 hX dX11_putTerm_41 rfl ?_
  refine v_getR (pc := 42) (t := 96) hX (hcs 95 (Nat.le_of_ble_eq_true rfl) (Nat.le_of_ble_eq_true rfl)) sh_95 fl_11_7 rfl dX11_putTerm_42 ?_
  refine v_bipush (pc := 45) hX dX11_putTerm_45 bp_21 ?_
  refine v_iconst (pc := 47) hX dX11_putTerm_47 ic_4 ?_
  refine v_iload_n (pc := 48) 1 hX dX11_putTerm_48 rfl ?_
  refine v_imul (pc := 49) hX dX11_putTerm_49 ?_
  refine v_iadd (pc := 50) hX dX11_putTerm_50 ?_
  refine v_iconst (pc := 51) hX dX11_putTerm_51 ic_3 ?_
  refine v_iadd (pc := 52) hX dX11_putTerm_52 ?_
  refine v_iload (pc := 53) 5 hX dX11_putTerm_53 rfl ?_
  obtain ⟨g7, h⟩ := gd_e h
  obtain ⟨M8, eM8, h⟩ := bd_e h
  refine v_iast (pc := 55) hX (hcs 96 (Nat.le_of_ble_eq_true rfl) (Nat.le_of_ble_eq_true rfl)) sh_96 g7 rfl dX11_putTerm_55 eM8 ?_
  obtain rfl := Option.some.inj h
  exact v_vret (pc := 56) hX hR dX11_putTerm_56
set_option maxHeartbeats 4000000 in
set_option maxRecDepth 100000 in
theorem c_X11_oneMore {ad : Nat → Nat} {cs : List Nat} (hcs : ∀ k, 95 ≤ k → k < 97 → k ∈ cs) (M : Mm) (w1 : Int32) (q : Int32 × Mm) (h : fX11_oneMore M w1 = some q) : CT ad cs yX11_oneMore cX11_oneMore 2 (some .int) 0 0 [.ref (ad 95), .int w1] M (some (.int q.1)) q.2 := by
  refine CT.of RX11 (by decide +kernel) rfl (Nat.le_of_ble_eq_true rfl) (fun X hX hR => ?_)
  unfold fX11_oneMore at h
  show VV X 2 ad cs M 0 [(0, .ref (ad 95)), (1, .int w1)] []
  refine v_aload_n (pc := 0) 0 hX dX11_oneMore_0 rfl ?_
  refine v_getR (pc := 1) (t := 96) hX (hcs 95 (Nat.le_of_ble_eq_true rfl) (Nat.le_of_ble_eq_true rfl)) sh_95 fl_11_7 rfl dX11_oneMore_1 ?_
  refine v_iload_n (pc := 4) 1 hX dX11_oneMore_4 rfl ?_
  refine v_dup2 (pc := 5) hX dX11_oneMore_5 rfl rfl ?_
  obtain ⟨g1, h⟩ := gd_e h
  refine v_iald (pc := 6) hX (hcs 96 (Nat.le_of_ble_eq_true rfl) (Nat.le_of_ble_eq_true rfl)) sh_96 g1 rfl dX11_oneMore_6 ?_
  refine v_iconst (pc := 7) hX dX11_oneMore_7 ic_1 ?_
  refine v_iadd (pc := 8) hX dX11_oneMore_8 ?_
  obtain ⟨M2, eM2, h⟩ := bd_e h
  refine v_iast (pc := 9) hX (hcs 96 (Nat.le_of_ble_eq_true rfl) (Nat.le_of_ble_eq_true rfl)) sh_96 g1 rfl dX11_oneMore_9 eM2 ?_
  refine v_aload_n (pc := 10) 0 hX dX11_oneMore_10 rfl ?_
  refine v_getR (pc := 11) (t := 96) hX (hcs 95 (Nat.le_of_ble_eq_true rfl) (Nat.le_of_ble_eq_true rfl)) sh_95 fl_11_7 rfl dX11_oneMore_11 ?_
  refine v_iload_n (pc := 14) 1 hX dX11_oneMore_14 rfl ?_
  refine v_iald (pc := 15) hX (hcs 96 (Nat.le_of_ble_eq_true rfl) (Nat.le_of_ble_eq_true rfl)) sh_96 g1 rfl dX11_oneMore_15 ?_
  obtain rfl := Option.some.inj h
  exact v_iret (pc := 16) hX hR dX11_oneMore_16
set_option maxHeartbeats 4000000 in
set_option maxRecDepth 100000 in
theorem c_X11_term {ad : Nat → Nat} {cs : List Nat} (hcs : ∀ k, 95 ≤ k → k < 98 → k ∈ cs) (M : Mm) (w1 : Int32) (w2 : Int32) (w3 : Int32) (w4 : Int32) (q : Int32 × Mm) (h : fX11_term M w1 w2 w3 w4 = some q) : CT ad cs yX11_term cX11_term 6 (some .int) 1 25 [.ref (ad 95), .int w1, .int w2, .int w3, .int w4] M (some (.int q.1)) q.2 := by
  refine CT.of RX11 (by decide +kernel) rfl (Nat.le_of_ble_eq_true rfl) (fun X hX hR => ?_)
  unfold fX11_term at h
  show VV X 6 ad cs M 0 [(0, .ref (ad 95)), (1, .int w1), (2, .int w2), (3, .int w3), (4, .int w4)] []
  refine v_iload_n (pc := 0) 1 hX dX11_term_0 rfl ?_
  refine v_bipush (pc := 1) hX dX11_term_1 bp_m99 ?_
  refine v_bipush (pc := 3) hX dX11_term_3 bp_99 ?_
  obtain ⟨x2, h1, h⟩ := b1_e h
  refine v_callS (pc := 5) [.int w1, .int (-99), .int 99] (some (.int x2)) M hX cv_11_48 (c_X11_in M w1 (-99) 99 x2 h1) rfl rfl ⟨Nat.le_of_ble_eq_true rfl, Nat.le_of_ble_eq_true rfl⟩ (Nat.le_of_ble_eq_true rfl) dX11_term_5 ?_
  show VV X 6 ad cs M 8 [(0, .ref (ad 95)), (1, .int w1), (2, .int w2), (3, .int w3), (4, .int w4)] [.int x2]
  obtain ⟨k3, ek3, h⟩ := bd_e h
  have K4 : ∀ (x5 : Int32), k3 x5 = some q → VV X 6 ad cs M 48 [(0, .ref (ad 95)), (1, .int w1), (2, .int w2), (3, .int w3), (4, .int w4)] [.int x5] := by
    intro x5 h
    subst ek3
    refine v_istore (pc := 48) [(5, .int x5), (0, .ref (ad 95)), (1, .int w1), (2, .int w2), (3, .int w3), (4, .int w4)] hX dX11_term_48 (by decide) rfl ?_
    refine v_iload (pc := 50) 0 hX dX11_term_50 rfl ?_
    refine v_if_eq (pc := 52) (tgt := 76) hX dX11_term_52 (by decide) (fun h6 => ?_) (fun h6 => ?_)
    · have h := if_t h h6
      refine v_ldc (pc := 76) hX kc_11_70 dX11_term_76 ?_
      obtain rfl := Option.some.inj h
      exact v_iret (pc := 78) hX hR dX11_term_78
    · have h := if_f h h6
      refine v_iload_n (pc := 55) 3 hX dX11_term_55 rfl ?_
      refine v_iload_n (pc := 56) 4 hX dX11_term_56 rfl ?_
      refine v_iadd (pc := 57) hX dX11_term_57 ?_
      refine v_iload (pc := 58) 5 hX dX11_term_58 rfl ?_
      refine v_iadd (pc := 60) hX dX11_term_60 ?_
      refine v_iconst (pc := 61) hX dX11_term_61 ic_4 ?_
      refine v_icmp_gt (pc := 62) (tgt := 76) hX dX11_term_62 (by decide) (fun h7 => ?_) (fun h7 => ?_)
      · have h := if_t h h7
        refine v_ldc (pc := 76) hX kc_11_70 dX11_term_76 ?_
        obtain rfl := Option.some.inj h
        exact v_iret (pc := 78) hX hR dX11_term_78
      · have h := if_f h h7
        refine v_aload_n (pc := 65) 1 hX dX11_term_65 rfl ?_
        refine v_iload_n (pc := 66) 3 hX dX11_term_66 rfl ?_
        refine v_iload_n (pc := 67) 4 hX dX11_term_67 rfl ?_
        refine v_iload (pc := 68) 5 hX dX11_term_68 rfl ?_
        obtain ⟨x9, h8, h⟩ := b1_e h
        refine v_callV (pc := 70) [.int w2, .int w3, .int w4] (some (.int x9)) M hX cv_11_52 (c_X11_areOfVariables (sub_cs hcs (Nat.le_of_ble_eq_true rfl) (Nat.le_of_ble_eq_true rfl)) M w2 w3 w4 x9 h8) (hcs 95 (Nat.le_of_ble_eq_true rfl) (Nat.le_of_ble_eq_true rfl)) sh_95 rfl rfl rfl ⟨Nat.le_of_ble_eq_true rfl, Nat.le_of_ble_eq_true rfl⟩ (Nat.le_of_ble_eq_true rfl) dX11_term_70 ?_
        show VV X 6 ad cs M 73 [(5, .int x5), (0, .ref (ad 95)), (1, .int w1), (2, .int w2), (3, .int w3), (4, .int w4)] [.int x9]
        refine v_if_ne (pc := 73) (tgt := 79) hX dX11_term_73 (by decide) (fun h10 => ?_) (fun h10 => ?_)
        · have h := if_f h h10
          refine v_aload_n (pc := 79) 1 hX dX11_term_79 rfl ?_
          obtain ⟨x12, h11, h⟩ := b1_e h
          refine v_callV (pc := 80) [] (some (.int x12)) M hX cv_11_71 (c_X11_termMany (sub_cs hcs (Nat.le_of_ble_eq_true rfl) (Nat.le_of_ble_eq_true rfl)) M x12 h11) (hcs 95 (Nat.le_of_ble_eq_true rfl) (Nat.le_of_ble_eq_true rfl)) sh_95 rfl rfl rfl ⟨Nat.le_of_ble_eq_true rfl, Nat.le_of_ble_eq_true rfl⟩ (Nat.le_of_ble_eq_true rfl) dX11_term_80 ?_
          show VV X 6 ad cs M 83 [(5, .int x5), (0, .ref (ad 95)), (1, .int w1), (2, .int w2), (3, .int w3), (4, .int w4)] [.int x12]
          refine v_bipush (pc := 83) hX dX11_term_83 bp_10 ?_
          refine v_icmp_ne (pc := 85) (tgt := 91) hX dX11_term_85 (by decide) (fun h13 => ?_) (fun h13 => ?_)
          · have h := if_f h h13
            refine v_aload_n (pc := 91) 1 hX dX11_term_91 rfl ?_
            obtain ⟨M15, h14, h⟩ := b1_e h
            refine v_callV (pc := 92) [] none M15 hX cv_11_45 (c_X11_record (sub_cs hcs (Nat.le_of_ble_eq_true rfl) (Nat.le_of_ble_eq_true rfl)) M M15 h14) (hcs 95 (Nat.le_of_ble_eq_true rfl) (Nat.le_of_ble_eq_true rfl)) sh_95 rfl rfl rfl ⟨Nat.le_of_ble_eq_true rfl, Nat.le_of_ble_eq_true rfl⟩ (Nat.le_of_ble_eq_true rfl) dX11_term_92 ?_
            show VV X 6 ad cs M15 95 [(5, .int x5), (0, .ref (ad 95)), (1, .int w1), (2, .int w2), (3, .int w3), (4, .int w4)] []
            refine v_aload_n (pc := 95) 1 hX dX11_term_95 rfl ?_
            refine v_aload_n (pc := 96) 1 hX dX11_term_96 rfl ?_
            obtain ⟨x17, h16, h⟩ := b1_e h
            refine v_callV (pc := 97) [] (some (.int x17)) M15 hX cv_11_71 (c_X11_termMany (sub_cs hcs (Nat.le_of_ble_eq_true rfl) (Nat.le_of_ble_eq_true rfl)) M15 x17 h16) (hcs 95 (Nat.le_of_ble_eq_true rfl) (Nat.le_of_ble_eq_true rfl)) sh_95 rfl rfl rfl ⟨Nat.le_of_ble_eq_true rfl, Nat.le_of_ble_eq_true rfl⟩ (Nat.le_of_ble_eq_true rfl) dX11_term_97 ?_
            show VV X 6 ad cs M15 100 [(5, .int x5), (0, .ref (ad 95)), (1, .int w1), (2, .int w2), (3, .int w3), (4, .int w4)] [.int x17, .ref (ad 95)]
            refine v_iload_n (pc := 100) 2 hX dX11_term_100 rfl ?_
            refine v_iload_n (pc := 101) 3 hX dX11_term_101 rfl ?_
            refine v_iload_n (pc := 102) 4 hX dX11_term_102 rfl ?_
            refine v_iload (pc := 103) 5 hX dX11_term_103 rfl ?_
            obtain ⟨M19, h18, h⟩ := b1_e h
            refine v_callV (pc := 105) [.int x17, .int w1, .int w2, .int w3, .int w4] none M19 hX cv_11_76 (c_X11_putTerm (sub_cs hcs (Nat.le_of_ble_eq_true rfl) (Nat.le_of_ble_eq_true rfl)) M15 x17 w1 w2 w3 w4 M19 h18) (hcs 95 (Nat.le_of_ble_eq_true rfl) (Nat.le_of_ble_eq_true rfl)) sh_95 rfl rfl rfl ⟨Nat.le_of_ble_eq_true rfl, Nat.le_of_ble_eq_true rfl⟩ (Nat.le_of_ble_eq_true rfl) dX11_term_105 ?_
            show VV X 6 ad cs M19 108 [(5, .int x5), (0, .ref (ad 95)), (1, .int w1), (2, .int w2), (3, .int w3), (4, .int w4)] []
            refine v_aload_n (pc := 108) 1 hX dX11_term_108 rfl ?_
            refine v_iconst (pc := 109) hX dX11_term_109 ic_1 ?_
            obtain ⟨x21, M22, h20, h⟩ := b2_e h
            refine v_callV (pc := 110) [.int 1] (some (.int x21)) M22 hX cv_11_80 (c_X11_oneMore (sub_cs hcs (Nat.le_of_ble_eq_true rfl) (Nat.le_of_ble_eq_true rfl)) M19 1 (x21, M22) h20) (hcs 95 (Nat.le_of_ble_eq_true rfl) (Nat.le_of_ble_eq_true rfl)) sh_95 rfl rfl rfl ⟨Nat.le_of_ble_eq_true rfl, Nat.le_of_ble_eq_true rfl⟩ (Nat.le_of_ble_eq_true rfl) dX11_term_110 ?_
            show VV X 6 ad cs M22 113 [(5, .int x5), (0, .ref (ad 95)), (1, .int w1), (2, .int w2), (3, .int w3), (4, .int w4)] [.int x21]
            obtain rfl := Option.some.inj h
            exact v_iret (pc := 113) hX hR dX11_term_113
          · have h := if_t h h13
            refine v_ldc (pc := 88) hX kc_11_75 dX11_term_88 ?_
            obtain rfl := Option.some.inj h
            exact v_iret (pc := 90) hX hR dX11_term_90
        · have h := if_t h h10
          refine v_ldc (pc := 76) hX kc_11_70 dX11_term_76 ?_
          obtain rfl := Option.some.inj h
          exact v_iret (pc := 78) hX hR dX11_term_78
  obtain ⟨k23, ek23, h⟩ := bd_e h
  have K24 : ∀ (_ : Unit), k23 () = some q → VV X 6 ad cs M 47 [(0, .ref (ad 95)), (1, .int w1), (2, .int w2), (3, .int w3), (4, .int w4)] [] := by
    intro _ h
    subst ek23
    refine v_iconst (pc := 47) hX dX11_term_47 ic_0 ?_
    exact v_sub [0, 1, 2, 3, 4] rfl (K4 0 h)
  refine v_if_eq (pc := 8) (tgt := 47) hX dX11_term_8 (by decide) (fun h25 => ?_) (fun h25 => ?_)
  · have h := if_t h h25
    exact v_sub [0, 1, 2, 3, 4] rfl (K24 () h)
  · have h := if_f h h25
    refine v_iload_n (pc := 11) 1 hX dX11_term_11 rfl ?_
    refine v_if_eq (pc := 12) (tgt := 47) hX dX11_term_12 (by decide) (fun h26 => ?_) (fun h26 => ?_)
    · have h := if_t h h26
      exact v_sub [0, 1, 2, 3, 4] rfl (K24 () h)
    · have h := if_f h h26
      refine v_iload_n (pc := 15) 2 hX dX11_term_15 rfl ?_
      refine v_iconst (pc := 16) hX dX11_term_16 ic_0 ?_
      refine v_iconst (pc := 17) hX dX11_term_17 ic_4 ?_
      obtain ⟨x28, h27, h⟩ := b1_e h
      refine v_callS (pc := 18) [.int w2, .int 0, .int 4] (some (.int x28)) M hX cv_11_48 (c_X11_in M w2 0 4 x28 h27) rfl rfl ⟨Nat.le_of_ble_eq_true rfl, Nat.le_of_ble_eq_true rfl⟩ (Nat.le_of_ble_eq_true rfl) dX11_term_18 ?_
      show VV X 6 ad cs M 21 [(0, .ref (ad 95)), (1, .int w1), (2, .int w2), (3, .int w3), (4, .int w4)] [.int x28]
      refine v_if_eq (pc := 21) (tgt := 47) hX dX11_term_21 (by decide) (fun h29 => ?_) (fun h29 => ?_)
      · have h := if_t h h29
        exact v_sub [0, 1, 2, 3, 4] rfl (K24 () h)
      · have h := if_f h h29
        refine v_iload_n (pc := 24) 3 hX dX11_term_24 rfl ?_
        refine v_iconst (pc := 25) hX dX11_term_25 ic_0 ?_
        refine v_iconst (pc := 26) hX dX11_term_26 ic_4 ?_
        obtain ⟨x31, h30, h⟩ := b1_e h
        refine v_callS (pc := 27) [.int w3, .int 0, .int 4] (some (.int x31)) M hX cv_11_48 (c_X11_in M w3 0 4 x31 h30) rfl rfl ⟨Nat.le_of_ble_eq_true rfl, Nat.le_of_ble_eq_true rfl⟩ (Nat.le_of_ble_eq_true rfl) dX11_term_27 ?_
        show VV X 6 ad cs M 30 [(0, .ref (ad 95)), (1, .int w1), (2, .int w2), (3, .int w3), (4, .int w4)] [.int x31]
        refine v_if_eq (pc := 30) (tgt := 47) hX dX11_term_30 (by decide) (fun h32 => ?_) (fun h32 => ?_)
        · have h := if_t h h32
          exact v_sub [0, 1, 2, 3, 4] rfl (K24 () h)
        · have h := if_f h h32
          refine v_iload (pc := 33) 4 hX dX11_term_33 rfl ?_
          refine v_iconst (pc := 35) hX dX11_term_35 ic_0 ?_
          refine v_iconst (pc := 36) hX dX11_term_36 ic_4 ?_
          obtain ⟨x34, h33, h⟩ := b1_e h
          refine v_callS (pc := 37) [.int w4, .int 0, .int 4] (some (.int x34)) M hX cv_11_48 (c_X11_in M w4 0 4 x34 h33) rfl rfl ⟨Nat.le_of_ble_eq_true rfl, Nat.le_of_ble_eq_true rfl⟩ (Nat.le_of_ble_eq_true rfl) dX11_term_37 ?_
          show VV X 6 ad cs M 40 [(0, .ref (ad 95)), (1, .int w1), (2, .int w2), (3, .int w3), (4, .int w4)] [.int x34]
          refine v_if_eq (pc := 40) (tgt := 47) hX dX11_term_40 (by decide) (fun h35 => ?_) (fun h35 => ?_)
          · have h := if_t h h35
            exact v_sub [0, 1, 2, 3, 4] rfl (K24 () h)
          · have h := if_f h h35
            refine v_iconst (pc := 43) hX dX11_term_43 ic_1 ?_
            refine v_goto (pc := 44) (tgt := 48) hX dX11_term_44 (by decide) ?_
            exact v_sub [0, 1, 2, 3, 4] rfl (K4 1 h)
set_option maxHeartbeats 4000000 in
set_option maxRecDepth 100000 in
theorem c_X11_dropTerm {ad : Nat → Nat} {cs : List Nat} (hcs : ∀ k, 95 ≤ k → k < 98 → k ∈ cs) (M : Mm) (w1 : Int32) (q : Int32 × Mm) (h : fX11_dropTerm M w1 = some q) : CT ad cs yX11_dropTerm cX11_dropTerm 4 (some .int) 1 21 [.ref (ad 95), .int w1] M (some (.int q.1)) q.2 := by
  refine CT.of RX11 (by decide +kernel) rfl (Nat.le_of_ble_eq_true rfl) (fun X hX hR => ?_)
  unfold fX11_dropTerm at h
  show VV X 4 ad cs M 0 [(0, .ref (ad 95)), (1, .int w1)] []
  refine v_iload_n (pc := 0) 1 hX dX11_dropTerm_0 rfl ?_
  refine v_if_ge (pc := 1) (tgt := 7) hX dX11_dropTerm_1 (by decide) (fun h1 => ?_) (fun h1 => ?_)
  · have h := if_t h h1
    refine v_iload_n (pc := 7) 1 hX dX11_dropTerm_7 rfl ?_
    refine v_aload_n (pc := 8) 0 hX dX11_dropTerm_8 rfl ?_
    refine v_getR (pc := 9) (t := 96) hX (hcs 95 (Nat.le_of_ble_eq_true rfl) (Nat.le_of_ble_eq_true rfl)) sh_95 fl_11_7 rfl dX11_dropTerm_9 ?_
    refine v_iconst (pc := 12) hX dX11_dropTerm_12 ic_1 ?_
    refine v_iald (pc := 13) hX (hcs 96 (Nat.le_of_ble_eq_true rfl) (Nat.le_of_ble_eq_true rfl)) sh_96 (ib_1 (by decide)) ix_1 dX11_dropTerm_13 ?_
    refine v_icmp_lt (pc := 14) (tgt := 20) hX dX11_dropTerm_14 (by decide) (fun h2 => ?_) (fun h2 => ?_)
    · have h := if_t h h2
      refine v_aload_n (pc := 20) 0 hX dX11_dropTerm_20 rfl ?_
      obtain ⟨M4, h3, h⟩ := b1_e h
      refine v_callV (pc := 21) [] none M4 hX cv_11_45 (c_X11_record (sub_cs hcs (Nat.le_of_ble_eq_true rfl) (Nat.le_of_ble_eq_true rfl)) M M4 h3) (hcs 95 (Nat.le_of_ble_eq_true rfl) (Nat.le_of_ble_eq_true rfl)) sh_95 rfl rfl rfl ⟨Nat.le_of_ble_eq_true rfl, Nat.le_of_ble_eq_true rfl⟩ (Nat.le_of_ble_eq_true rfl) dX11_dropTerm_21 ?_
      show VV X 4 ad cs M4 24 [(0, .ref (ad 95)), (1, .int w1)] []
      refine v_aload_n (pc := 24) 0 hX dX11_dropTerm_24 rfl ?_
      refine v_getR (pc := 25) (t := 96) hX (hcs 95 (Nat.le_of_ble_eq_true rfl) (Nat.le_of_ble_eq_true rfl)) sh_95 fl_11_7 rfl dX11_dropTerm_25 ?_
      refine v_bipush (pc := 28) hX dX11_dropTerm_28 bp_21 ?_
      refine v_iconst (pc := 30) hX dX11_dropTerm_30 ic_4 ?_
      refine v_iload_n (pc := 31) 1 hX dX11_dropTerm_31 rfl ?_
      refine v_imul (pc := 32) hX dX11_dropTerm_32 ?_
      refine v_iadd (pc := 33) hX dX11_dropTerm_33 ?_
      obtain ⟨g5, h⟩ := gd_e h
      refine v_iald (pc := 34) hX (hcs 96 (Nat.le_of_ble_eq_true rfl) (Nat.le_of_ble_eq_true rfl)) sh_96 g5 rfl dX11_dropTerm_34 ?_
      obtain ⟨x6, ex6, h⟩ := bd_e h
      refine v_top ex6 ?_
      refine v_istore_n (pc := 35) [(2, .int x6), (0, .ref (ad 95)), (1, .int w1)] hX dX11_dropTerm_35 (by decide) rfl ?_
      refine v_aload_n (pc := 36) 1 hX dX11_dropTerm_36 rfl ?_
      refine v_getR (pc := 37) (t := 96) hX (hcs 95 (Nat.le_of_ble_eq_true rfl) (Nat.le_of_ble_eq_true rfl)) sh_95 fl_11_7 rfl dX11_dropTerm_37 ?_
      refine v_iconst (pc := 40) hX dX11_dropTerm_40 ic_1 ?_
      refine v_dup2 (pc := 41) hX dX11_dropTerm_41 rfl rfl ?_
      refine v_iald (pc := 42) hX (hcs 96 (Nat.le_of_ble_eq_true rfl) (Nat.le_of_ble_eq_true rfl)) sh_96 (ib_1 (by decide)) ix_1 dX11_dropTerm_42 ?_
      refine v_iconst (pc := 43) hX dX11_dropTerm_43 ic_1 ?_
      refine v_isub (pc := 44) hX dX11_dropTerm_44 ?_
      obtain ⟨M7, eM7, h⟩ := bd_e h
      refine v_iast (pc := 45) hX (hcs 96 (Nat.le_of_ble_eq_true rfl) (Nat.le_of_ble_eq_true rfl)) sh_96 (ib_1 (by decide)) ix_1 dX11_dropTerm_45 eM7 ?_
      refine v_bipush (pc := 46) hX dX11_dropTerm_46 bp_21 ?_
      refine v_iconst (pc := 48) hX dX11_dropTerm_48 ic_4 ?_
      refine v_iload_n (pc := 49) 2 hX dX11_dropTerm_49 rfl ?_
      refine v_imul (pc := 50) hX dX11_dropTerm_50 ?_
      refine v_iadd (pc := 51) hX dX11_dropTerm_51 ?_
      obtain ⟨x8, ex8, h⟩ := bd_e h
      refine v_top ex8 ?_
      refine v_istore_n (pc := 52) [(3, .int x8), (2, .int x6), (0, .ref (ad 95)), (1, .int w1)] hX dX11_dropTerm_52 (by decide) rfl ?_
      have L16 := v_itr (fX11_dropTerm_L53) (fun z => VV X 4 ad cs z.2 53 [(0, .ref (ad 95)), (2, .int x6), (3, .int z.1)] []) (fun z => VV X 4 ad cs z 88 [(2, .int x6)] []) (by
        rintro ⟨x9, M10⟩ q h hK
        unfold fX11_dropTerm_L53 at h
        have h := u2_b h
        show VV X 4 ad cs M10 53 [(0, .ref (ad 95)), (2, .int x6), (3, .int x9)] []
        refine v_iload_n (pc := 53) 2 hX dX11_dropTerm_53 rfl ?_
        refine v_bipush (pc := 54) hX dX11_dropTerm_54 bp_21 ?_
        refine v_iconst (pc := 56) hX dX11_dropTerm_56 ic_4 ?_
        refine v_aload_n (pc := 57) 0 hX dX11_dropTerm_57 rfl ?_
        refine v_getR (pc := 58) (t := 96) hX (hcs 95 (Nat.le_of_ble_eq_true rfl) (Nat.le_of_ble_eq_true rfl)) sh_95 fl_11_7 rfl dX11_dropTerm_58 ?_
        refine v_iconst (pc := 61) hX dX11_dropTerm_61 ic_1 ?_
        refine v_iald (pc := 62) hX (hcs 96 (Nat.le_of_ble_eq_true rfl) (Nat.le_of_ble_eq_true rfl)) sh_96 (ib_1 (by decide)) ix_1 dX11_dropTerm_62 ?_
        refine v_imul (pc := 63) hX dX11_dropTerm_63 ?_
        refine v_iadd (pc := 64) hX dX11_dropTerm_64 ?_
        refine v_icmp_ge (pc := 65) (tgt := 88) hX dX11_dropTerm_65 (by decide) (fun h11 => ?_) (fun h11 => ?_)
        · have h := if_t h h11
          obtain rfl := Option.some.inj h
          exact v_sub [1] rfl hK
        · have h := if_f h h11
          refine v_aload_n (pc := 68) 0 hX dX11_dropTerm_68 rfl ?_
          refine v_getR (pc := 69) (t := 96) hX (hcs 95 (Nat.le_of_ble_eq_true rfl) (Nat.le_of_ble_eq_true rfl)) sh_95 fl_11_7 rfl dX11_dropTerm_69 ?_
          refine v_iload_n (pc := 72) 2 hX dX11_dropTerm_72 rfl ?_
          refine v_aload_n (pc := 73) 0 hX dX11_dropTerm_73 rfl ?_
          refine v_getR (pc := 74) (t := 96) hX (hcs 95 (Nat.le_of_ble_eq_true rfl) (Nat.le_of_ble_eq_true rfl)) sh_95 fl_11_7 rfl dX11_dropTerm_74 ?_
          refine v_iload_n (pc := 77) 2 hX dX11_dropTerm_77 rfl ?_
          refine v_iconst (pc := 78) hX dX11_dropTerm_78 ic_4 ?_
          refine v_iadd (pc := 79) hX dX11_dropTerm_79 ?_
          obtain ⟨g12, h⟩ := gd_e h
          refine v_iald (pc := 80) hX (hcs 96 (Nat.le_of_ble_eq_true rfl) (Nat.le_of_ble_eq_true rfl)) sh_96 g12 rfl dX11_dropTerm_80 ?_
          obtain ⟨g13, h⟩ := gd_e h
          obtain ⟨M14, eM14, h⟩ := bd_e h
          refine v_iast (pc := 81) hX (hcs 96 (Nat.le_of_ble_eq_true rfl) (Nat.le_of_ble_eq_true rfl)) sh_96 g13 rfl dX11_dropTerm_81 eM14 ?_
          obtain ⟨x15, ex15, h⟩ := bd_e h
          refine v_iinc (v := x15) (pc := 82) 2 [(3, .int x15), (0, .ref (ad 95)), (2, .int x6)] hX dX11_dropTerm_82 rfl (ex15.trans (by rw [ic_1])) (by decide) rfl ?_
          refine v_goto (pc := 85) (tgt := 53) hX dX11_dropTerm_85 (by decide) ?_
          obtain rfl := Option.some.inj h
          exact v_sub [1, 2, 0] rfl hK
      )
      obtain ⟨M17, h18, h⟩ := b1_e h
      refine v_sub [2, 1, 0] rfl ?_
      refine L16 1000 _ _ h18 ?_
      show VV X 4 ad cs M17 88 [(2, .int x6)] []
      refine v_iload_n (pc := 88) 0 hX dX11_dropTerm_88 rfl ?_
      obtain rfl := Option.some.inj h
      exact v_iret (pc := 89) hX hR dX11_dropTerm_89
    · have h := if_f h h2
      refine v_ldc (pc := 17) hX kc_11_40 dX11_dropTerm_17 ?_
      obtain rfl := Option.some.inj h
      exact v_iret (pc := 19) hX hR dX11_dropTerm_19
  · have h := if_f h h1
    refine v_ldc (pc := 4) hX kc_11_70 dX11_dropTerm_4 ?_
    obtain rfl := Option.some.inj h
    exact v_iret (pc := 6) hX hR dX11_dropTerm_6
set_option maxHeartbeats 4000000 in
set_option maxRecDepth 100000 in
theorem c_X11_isVariable {ad : Nat → Nat} {cs : List Nat} (hcs : ∀ k, 95 ≤ k → k < 97 → k ∈ cs) (M : Mm) (w1 : Int32) (q : Int32) (h : fX11_isVariable M w1 = some q) : CT ad cs yX11_isVariable cX11_isVariable 2 (some .boolean) 1 22 [.ref (ad 95), .int w1] M (some (.int q)) M := by
  refine CT.of RX11 (by decide +kernel) rfl (Nat.le_of_ble_eq_true rfl) (fun X hX hR => ?_)
  unfold fX11_isVariable at h
  show VV X 2 ad cs M 0 [(0, .ref (ad 95)), (1, .int w1)] []
  refine v_iload_n (pc := 0) 1 hX dX11_isVariable_0 rfl ?_
  refine v_iconst (pc := 1) hX dX11_isVariable_1 ic_0 ?_
  refine v_aload_n (pc := 2) 0 hX dX11_isVariable_2 rfl ?_
  refine v_getR (pc := 3) (t := 96) hX (hcs 95 (Nat.le_of_ble_eq_true rfl) (Nat.le_of_ble_eq_true rfl)) sh_95 fl_11_7 rfl dX11_isVariable_3 ?_
  refine v_iconst (pc := 6) hX dX11_isVariable_6 ic_0 ?_
  refine v_iald (pc := 7) hX (hcs 96 (Nat.le_of_ble_eq_true rfl) (Nat.le_of_ble_eq_true rfl)) sh_96 (ib_0 (by decide)) ix_0 dX11_isVariable_7 ?_
  refine v_iconst (pc := 8) hX dX11_isVariable_8 ic_1 ?_
  refine v_isub (pc := 9) hX dX11_isVariable_9 ?_
  obtain ⟨x2, h1, h⟩ := b1_e h
  refine v_callS (pc := 10) [.int w1, .int 0, .int ((M.1 96 0) - 1)] (some (.int x2)) M hX cv_11_48 (c_X11_in M w1 0 ((M.1 96 0) - 1) x2 h1) rfl rfl ⟨Nat.le_of_ble_eq_true rfl, Nat.le_of_ble_eq_true rfl⟩ (Nat.le_of_ble_eq_true rfl) dX11_isVariable_10 ?_
  show VV X 2 ad cs M 13 [(0, .ref (ad 95)), (1, .int w1)] [.int x2]
  obtain ⟨g3, h⟩ := gd_e h
  obtain rfl := Option.some.inj h
  exact v_zret (pc := 13) hX hR g3 dX11_isVariable_13
set_option maxHeartbeats 4000000 in
set_option maxRecDepth 100000 in
theorem c_X11_isAllowed {ad : Nat → Nat} {cs : List Nat} (hcs : ∀ k, 95 ≤ k → k < 97 → k ∈ cs) (M : Mm) (w1 : Int32) (w2 : Int32) (w3 : Int32) (q : Int32) (h : fX11_isAllowed M w1 w2 w3 = some q) : CT ad cs yX11_isAllowed cX11_isAllowed 4 (some .boolean) 1 22 [.ref (ad 95), .int w1, .int w2, .int w3] M (some (.int q)) M := by
  refine CT.of RX11 (by decide +kernel) rfl (Nat.le_of_ble_eq_true rfl) (fun X hX hR => ?_)
  unfold fX11_isAllowed at h
  show VV X 4 ad cs M 0 [(0, .ref (ad 95)), (1, .int w1), (2, .int w2), (3, .int w3)] []
  refine v_iload_n (pc := 0) 1 hX dX11_isAllowed_0 rfl ?_
  refine v_aload_n (pc := 1) 0 hX dX11_isAllowed_1 rfl ?_
  refine v_getR (pc := 2) (t := 96) hX (hcs 95 (Nat.le_of_ble_eq_true rfl) (Nat.le_of_ble_eq_true rfl)) sh_95 fl_11_7 rfl dX11_isAllowed_2 ?_
  refine v_bipush (pc := 5) hX dX11_isAllowed_5 bp_12 ?_
  refine v_iald (pc := 7) hX (hcs 96 (Nat.le_of_ble_eq_true rfl) (Nat.le_of_ble_eq_true rfl)) sh_96 (ib_12 (by decide)) ix_12 dX11_isAllowed_7 ?_
  refine v_aload_n (pc := 8) 0 hX dX11_isAllowed_8 rfl ?_
  refine v_getR (pc := 9) (t := 96) hX (hcs 95 (Nat.le_of_ble_eq_true rfl) (Nat.le_of_ble_eq_true rfl)) sh_95 fl_11_7 rfl dX11_isAllowed_9 ?_
  refine v_bipush (pc := 12) hX dX11_isAllowed_12 bp_15 ?_
  refine v_iald (pc := 14) hX (hcs 96 (Nat.le_of_ble_eq_true rfl) (Nat.le_of_ble_eq_true rfl)) sh_96 (ib_15 (by decide)) ix_15 dX11_isAllowed_14 ?_
  obtain ⟨x2, h1, h⟩ := b1_e h
  refine v_callS (pc := 15) [.int w1, .int (M.1 96 12), .int (M.1 96 15)] (some (.int x2)) M hX cv_11_48 (c_X11_in M w1 (M.1 96 12) (M.1 96 15) x2 h1) rfl rfl ⟨Nat.le_of_ble_eq_true rfl, Nat.le_of_ble_eq_true rfl⟩ (Nat.le_of_ble_eq_true rfl) dX11_isAllowed_15 ?_
  show VV X 4 ad cs M 18 [(0, .ref (ad 95)), (1, .int w1), (2, .int w2), (3, .int w3)] [.int x2]
  refine v_if_eq (pc := 18) (tgt := 67) hX dX11_isAllowed_18 (by decide) (fun h3 => ?_) (fun h3 => ?_)
  · have h := if_t h h3
    refine v_iconst (pc := 67) hX dX11_isAllowed_67 ic_0 ?_
    obtain rfl := Option.some.inj h
    exact v_zret (pc := 68) hX hR (Or.inl rfl) dX11_isAllowed_68
  · have h := if_f h h3
    refine v_iload_n (pc := 21) 2 hX dX11_isAllowed_21 rfl ?_
    refine v_aload_n (pc := 22) 0 hX dX11_isAllowed_22 rfl ?_
    refine v_getR (pc := 23) (t := 96) hX (hcs 95 (Nat.le_of_ble_eq_true rfl) (Nat.le_of_ble_eq_true rfl)) sh_95 fl_11_7 rfl dX11_isAllowed_23 ?_
    refine v_bipush (pc := 26) hX dX11_isAllowed_26 bp_13 ?_
    refine v_iald (pc := 28) hX (hcs 96 (Nat.le_of_ble_eq_true rfl) (Nat.le_of_ble_eq_true rfl)) sh_96 (ib_13 (by decide)) ix_13 dX11_isAllowed_28 ?_
    refine v_aload_n (pc := 29) 0 hX dX11_isAllowed_29 rfl ?_
    refine v_getR (pc := 30) (t := 96) hX (hcs 95 (Nat.le_of_ble_eq_true rfl) (Nat.le_of_ble_eq_true rfl)) sh_95 fl_11_7 rfl dX11_isAllowed_30 ?_
    refine v_bipush (pc := 33) hX dX11_isAllowed_33 bp_16 ?_
    refine v_iald (pc := 35) hX (hcs 96 (Nat.le_of_ble_eq_true rfl) (Nat.le_of_ble_eq_true rfl)) sh_96 (ib_16 (by decide)) ix_16 dX11_isAllowed_35 ?_
    obtain ⟨x5, h4, h⟩ := b1_e h
    refine v_callS (pc := 36) [.int w2, .int (M.1 96 13), .int (M.1 96 16)] (some (.int x5)) M hX cv_11_48 (c_X11_in M w2 (M.1 96 13) (M.1 96 16) x5 h4) rfl rfl ⟨Nat.le_of_ble_eq_true rfl, Nat.le_of_ble_eq_true rfl⟩ (Nat.le_of_ble_eq_true rfl) dX11_isAllowed_36 ?_
    show VV X 4 ad cs M 39 [(0, .ref (ad 95)), (1, .int w1), (2, .int w2), (3, .int w3)] [.int x5]
    refine v_if_eq (pc := 39) (tgt := 67) hX dX11_isAllowed_39 (by decide) (fun h6 => ?_) (fun h6 => ?_)
    · have h := if_t h h6
      refine v_iconst (pc := 67) hX dX11_isAllowed_67 ic_0 ?_
      obtain rfl := Option.some.inj h
      exact v_zret (pc := 68) hX hR (Or.inl rfl) dX11_isAllowed_68
    · have h := if_f h h6
      refine v_iload_n (pc := 42) 3 hX dX11_isAllowed_42 rfl ?_
      refine v_aload_n (pc := 43) 0 hX dX11_isAllowed_43 rfl ?_
      refine v_getR (pc := 44) (t := 96) hX (hcs 95 (Nat.le_of_ble_eq_true rfl) (Nat.le_of_ble_eq_true rfl)) sh_95 fl_11_7 rfl dX11_isAllowed_44 ?_
      refine v_bipush (pc := 47) hX dX11_isAllowed_47 bp_14 ?_
      refine v_iald (pc := 49) hX (hcs 96 (Nat.le_of_ble_eq_true rfl) (Nat.le_of_ble_eq_true rfl)) sh_96 (ib_14 (by decide)) ix_14 dX11_isAllowed_49 ?_
      refine v_aload_n (pc := 50) 0 hX dX11_isAllowed_50 rfl ?_
      refine v_getR (pc := 51) (t := 96) hX (hcs 95 (Nat.le_of_ble_eq_true rfl) (Nat.le_of_ble_eq_true rfl)) sh_95 fl_11_7 rfl dX11_isAllowed_51 ?_
      refine v_bipush (pc := 54) hX dX11_isAllowed_54 bp_17 ?_
      refine v_iald (pc := 56) hX (hcs 96 (Nat.le_of_ble_eq_true rfl) (Nat.le_of_ble_eq_true rfl)) sh_96 (ib_17 (by decide)) ix_17 dX11_isAllowed_56 ?_
      obtain ⟨x8, h7, h⟩ := b1_e h
      refine v_callS (pc := 57) [.int w3, .int (M.1 96 14), .int (M.1 96 17)] (some (.int x8)) M hX cv_11_48 (c_X11_in M w3 (M.1 96 14) (M.1 96 17) x8 h7) rfl rfl ⟨Nat.le_of_ble_eq_true rfl, Nat.le_of_ble_eq_true rfl⟩ (Nat.le_of_ble_eq_true rfl) dX11_isAllowed_57 ?_
      show VV X 4 ad cs M 60 [(0, .ref (ad 95)), (1, .int w1), (2, .int w2), (3, .int w3)] [.int x8]
      refine v_if_eq (pc := 60) (tgt := 67) hX dX11_isAllowed_60 (by decide) (fun h9 => ?_) (fun h9 => ?_)
      · have h := if_t h h9
        refine v_iconst (pc := 67) hX dX11_isAllowed_67 ic_0 ?_
        obtain rfl := Option.some.inj h
        exact v_zret (pc := 68) hX hR (Or.inl rfl) dX11_isAllowed_68
      · have h := if_f h h9
        refine v_iconst (pc := 63) hX dX11_isAllowed_63 ic_1 ?_
        refine v_goto (pc := 64) (tgt := 68) hX dX11_isAllowed_64 (by decide) ?_
        obtain rfl := Option.some.inj h
        exact v_zret (pc := 68) hX hR (Or.inr rfl) dX11_isAllowed_68
set_option maxHeartbeats 4000000 in
set_option maxRecDepth 100000 in
theorem c_X11_isHereAllowed {ad : Nat → Nat} {cs : List Nat} (hcs : ∀ k, 95 ≤ k → k < 97 → k ∈ cs) (M : Mm) (q : Int32) (h : fX11_isHereAllowed M = some q) : CT ad cs yX11_isHereAllowed cX11_isHereAllowed 1 (some .boolean) 2 45 [.ref (ad 95)] M (some (.int q)) M := by
  refine CT.of RX11 (by decide +kernel) rfl (Nat.le_of_ble_eq_true rfl) (fun X hX hR => ?_)
  unfold fX11_isHereAllowed at h
  show VV X 1 ad cs M 0 [(0, .ref (ad 95))] []
  refine v_aload_n (pc := 0) 0 hX dX11_isHereAllowed_0 rfl ?_
  refine v_aload_n (pc := 1) 0 hX dX11_isHereAllowed_1 rfl ?_
  refine v_getR (pc := 2) (t := 96) hX (hcs 95 (Nat.le_of_ble_eq_true rfl) (Nat.le_of_ble_eq_true rfl)) sh_95 fl_11_7 rfl dX11_isHereAllowed_2 ?_
  refine v_bipush (pc := 5) hX dX11_isHereAllowed_5 bp_18 ?_
  refine v_iald (pc := 7) hX (hcs 96 (Nat.le_of_ble_eq_true rfl) (Nat.le_of_ble_eq_true rfl)) sh_96 (ib_18 (by decide)) ix_18 dX11_isHereAllowed_7 ?_
  refine v_aload_n (pc := 8) 0 hX dX11_isHereAllowed_8 rfl ?_
  refine v_getR (pc := 9) (t := 96) hX (hcs 95 (Nat.le_of_ble_eq_true rfl) (Nat.le_of_ble_eq_true rfl)) sh_95 fl_11_7 rfl dX11_isHereAllowed_9 ?_
  refine v_bipush (pc := 12) hX dX11_isHereAllowed_12 bp_19 ?_
  refine v_iald (pc := 14) hX (hcs 96 (Nat.le_of_ble_eq_true rfl) (Nat.le_of_ble_eq_true rfl)) sh_96 (ib_19 (by decide)) ix_19 dX11_isHereAllowed_14 ?_
  refine v_aload_n (pc := 15) 0 hX dX11_isHereAllowed_15 rfl ?_
  refine v_getR (pc := 16) (t := 96) hX (hcs 95 (Nat.le_of_ble_eq_true rfl) (Nat.le_of_ble_eq_true rfl)) sh_95 fl_11_7 rfl dX11_isHereAllowed_16 ?_
  refine v_bipush (pc := 19) hX dX11_isHereAllowed_19 bp_20 ?_
  refine v_iald (pc := 21) hX (hcs 96 (Nat.le_of_ble_eq_true rfl) (Nat.le_of_ble_eq_true rfl)) sh_96 (ib_20 (by decide)) ix_20 dX11_isHereAllowed_21 ?_
  obtain ⟨x2, h1, h⟩ := b1_e h
  refine v_callV (pc := 22) [.int (M.1 96 18), .int (M.1 96 19), .int (M.1 96 20)] (some (.int x2)) M hX cv_11_84 (c_X11_isAllowed (sub_cs hcs (Nat.le_of_ble_eq_true rfl) (Nat.le_of_ble_eq_true rfl)) M (M.1 96 18) (M.1 96 19) (M.1 96 20) x2 h1) (hcs 95 (Nat.le_of_ble_eq_true rfl) (Nat.le_of_ble_eq_true rfl)) sh_95 rfl rfl rfl ⟨Nat.le_of_ble_eq_true rfl, Nat.le_of_ble_eq_true rfl⟩ (Nat.le_of_ble_eq_true rfl) dX11_isHereAllowed_22 ?_
  show VV X 1 ad cs M 25 [(0, .ref (ad 95))] [.int x2]
  obtain ⟨g3, h⟩ := gd_e h
  obtain rfl := Option.some.inj h
  exact v_zret (pc := 25) hX hR g3 dX11_isHereAllowed_25
set_option maxHeartbeats 4000000 in
set_option maxRecDepth 100000 in
theorem c_X11_bound {ad : Nat → Nat} {cs : List Nat} (hcs : ∀ k, 95 ≤ k → k < 98 → k ∈ cs) (M : Mm) (w1 : Int32) (w2 : Int32) (w3 : Int32) (q : Int32 × Mm) (h : fX11_bound M w1 w2 w3 = some q) : CT ad cs yX11_bound cX11_bound 4 (some .int) 3 65 [.ref (ad 95), .int w1, .int w2, .int w3] M (some (.int q.1)) q.2 := by
  refine CT.of RX11 (by decide +kernel) rfl (Nat.le_of_ble_eq_true rfl) (fun X hX hR => ?_)
  unfold fX11_bound at h
  show VV X 4 ad cs M 0 [(0, .ref (ad 95)), (1, .int w1), (2, .int w2), (3, .int w3)] []
  refine v_aload_n (pc := 0) 0 hX dX11_bound_0 rfl ?_
  refine v_iload_n (pc := 1) 1 hX dX11_bound_1 rfl ?_
  obtain ⟨x2, h1, h⟩ := b1_e h
  refine v_callV (pc := 2) [.int w1] (some (.int x2)) M hX cv_11_87 (c_X11_isVariable (sub_cs hcs (Nat.le_of_ble_eq_true rfl) (Nat.le_of_ble_eq_true rfl)) M w1 x2 h1) (hcs 95 (Nat.le_of_ble_eq_true rfl) (Nat.le_of_ble_eq_true rfl)) sh_95 rfl rfl rfl ⟨Nat.le_of_ble_eq_true rfl, Nat.le_of_ble_eq_true rfl⟩ (Nat.le_of_ble_eq_true rfl) dX11_bound_2 ?_
  show VV X 4 ad cs M 5 [(0, .ref (ad 95)), (1, .int w1), (2, .int w2), (3, .int w3)] [.int x2]
  refine v_if_eq (pc := 5) (tgt := 29) hX dX11_bound_5 (by decide) (fun h3 => ?_) (fun h3 => ?_)
  · have h := if_t h h3
    refine v_ldc (pc := 29) hX kc_11_70 dX11_bound_29 ?_
    obtain rfl := Option.some.inj h
    exact v_iret (pc := 31) hX hR dX11_bound_31
  · have h := if_f h h3
    refine v_iload_n (pc := 8) 2 hX dX11_bound_8 rfl ?_
    refine v_bipush (pc := 9) hX dX11_bound_9 bp_m50 ?_
    refine v_bipush (pc := 11) hX dX11_bound_11 bp_50 ?_
    obtain ⟨x5, h4, h⟩ := b1_e h
    refine v_callS (pc := 13) [.int w2, .int (-50), .int 50] (some (.int x5)) M hX cv_11_48 (c_X11_in M w2 (-50) 50 x5 h4) rfl rfl ⟨Nat.le_of_ble_eq_true rfl, Nat.le_of_ble_eq_true rfl⟩ (Nat.le_of_ble_eq_true rfl) dX11_bound_13 ?_
    show VV X 4 ad cs M 16 [(0, .ref (ad 95)), (1, .int w1), (2, .int w2), (3, .int w3)] [.int x5]
    refine v_if_eq (pc := 16) (tgt := 29) hX dX11_bound_16 (by decide) (fun h6 => ?_) (fun h6 => ?_)
    · have h := if_t h h6
      refine v_ldc (pc := 29) hX kc_11_70 dX11_bound_29 ?_
      obtain rfl := Option.some.inj h
      exact v_iret (pc := 31) hX hR dX11_bound_31
    · have h := if_f h h6
      refine v_iload_n (pc := 19) 3 hX dX11_bound_19 rfl ?_
      refine v_iload_n (pc := 20) 2 hX dX11_bound_20 rfl ?_
      refine v_bipush (pc := 21) hX dX11_bound_21 bp_50 ?_
      obtain ⟨x8, h7, h⟩ := b1_e h
      refine v_callS (pc := 23) [.int w3, .int w2, .int 50] (some (.int x8)) M hX cv_11_48 (c_X11_in M w3 w2 50 x8 h7) rfl rfl ⟨Nat.le_of_ble_eq_true rfl, Nat.le_of_ble_eq_true rfl⟩ (Nat.le_of_ble_eq_true rfl) dX11_bound_23 ?_
      show VV X 4 ad cs M 26 [(0, .ref (ad 95)), (1, .int w1), (2, .int w2), (3, .int w3)] [.int x8]
      refine v_if_ne (pc := 26) (tgt := 32) hX dX11_bound_26 (by decide) (fun h9 => ?_) (fun h9 => ?_)
      · have h := if_f h h9
        refine v_aload_n (pc := 32) 0 hX dX11_bound_32 rfl ?_
        obtain ⟨M11, h10, h⟩ := b1_e h
        refine v_callV (pc := 33) [] none M11 hX cv_11_45 (c_X11_record (sub_cs hcs (Nat.le_of_ble_eq_true rfl) (Nat.le_of_ble_eq_true rfl)) M M11 h10) (hcs 95 (Nat.le_of_ble_eq_true rfl) (Nat.le_of_ble_eq_true rfl)) sh_95 rfl rfl rfl ⟨Nat.le_of_ble_eq_true rfl, Nat.le_of_ble_eq_true rfl⟩ (Nat.le_of_ble_eq_true rfl) dX11_bound_33 ?_
        show VV X 4 ad cs M11 36 [(0, .ref (ad 95)), (1, .int w1), (2, .int w2), (3, .int w3)] []
        refine v_aload_n (pc := 36) 0 hX dX11_bound_36 rfl ?_
        refine v_getR (pc := 37) (t := 96) hX (hcs 95 (Nat.le_of_ble_eq_true rfl) (Nat.le_of_ble_eq_true rfl)) sh_95 fl_11_7 rfl dX11_bound_37 ?_
        refine v_bipush (pc := 40) hX dX11_bound_40 bp_12 ?_
        refine v_iload_n (pc := 42) 1 hX dX11_bound_42 rfl ?_
        refine v_iadd (pc := 43) hX dX11_bound_43 ?_
        refine v_iload_n (pc := 44) 2 hX dX11_bound_44 rfl ?_
        obtain ⟨g12, h⟩ := gd_e h
        obtain ⟨M13, eM13, h⟩ := bd_e h
        refine v_iast (pc := 45) hX (hcs 96 (Nat.le_of_ble_eq_true rfl) (Nat.le_of_ble_eq_true rfl)) sh_96 g12 rfl dX11_bound_45 eM13 ?_
        refine v_aload_n (pc := 46) 0 hX dX11_bound_46 rfl ?_
        refine v_getR (pc := 47) (t := 96) hX (hcs 95 (Nat.le_of_ble_eq_true rfl) (Nat.le_of_ble_eq_true rfl)) sh_95 fl_11_7 rfl dX11_bound_47 ?_
        refine v_bipush (pc := 50) hX dX11_bound_50 bp_15 ?_
        refine v_iload_n (pc := 52) 1 hX dX11_bound_52 rfl ?_
        refine v_iadd (pc := 53) hX dX11_bound_53 ?_
        refine v_iload_n (pc := 54) 3 hX dX11_bound_54 rfl ?_
        obtain ⟨g14, h⟩ := gd_e h
        obtain ⟨M15, eM15, h⟩ := bd_e h
        refine v_iast (pc := 55) hX (hcs 96 (Nat.le_of_ble_eq_true rfl) (Nat.le_of_ble_eq_true rfl)) sh_96 g14 rfl dX11_bound_55 eM15 ?_
        refine v_aload_n (pc := 56) 0 hX dX11_bound_56 rfl ?_
        obtain ⟨x17, h16, h⟩ := b1_e h
        refine v_callV (pc := 57) [] (some (.int x17)) M15 hX cv_11_91 (c_X11_isHereAllowed (sub_cs hcs (Nat.le_of_ble_eq_true rfl) (Nat.le_of_ble_eq_true rfl)) M15 x17 h16) (hcs 95 (Nat.le_of_ble_eq_true rfl) (Nat.le_of_ble_eq_true rfl)) sh_95 rfl rfl rfl ⟨Nat.le_of_ble_eq_true rfl, Nat.le_of_ble_eq_true rfl⟩ (Nat.le_of_ble_eq_true rfl) dX11_bound_57 ?_
        show VV X 4 ad cs M15 60 [(0, .ref (ad 95)), (1, .int w1), (2, .int w2), (3, .int w3)] [.int x17]
        refine v_if_eq (pc := 60) (tgt := 67) hX dX11_bound_60 (by decide) (fun h18 => ?_) (fun h18 => ?_)
        · have h := if_t h h18
          refine v_iconst (pc := 67) hX dX11_bound_67 ic_0 ?_
          obtain rfl := Option.some.inj h
          exact v_iret (pc := 68) hX hR dX11_bound_68
        · have h := if_f h h18
          refine v_iconst (pc := 63) hX dX11_bound_63 ic_1 ?_
          refine v_goto (pc := 64) (tgt := 68) hX dX11_bound_64 (by decide) ?_
          obtain rfl := Option.some.inj h
          exact v_iret (pc := 68) hX hR dX11_bound_68
      · have h := if_t h h9
        refine v_ldc (pc := 29) hX kc_11_70 dX11_bound_29 ?_
        obtain rfl := Option.some.inj h
        exact v_iret (pc := 31) hX hR dX11_bound_31
set_option maxHeartbeats 4000000 in
set_option maxRecDepth 100000 in
theorem c_X11_directionMany {ad : Nat → Nat} {cs : List Nat} (hcs : ∀ k, 95 ≤ k → k < 97 → k ∈ cs) (M : Mm) (q : Int32) (h : fX11_directionMany M = some q) : CT ad cs yX11_directionMany cX11_directionMany 1 (some .int) 0 0 [.ref (ad 95)] M (some (.int q)) M := by
  refine CT.of RX11 (by decide +kernel) rfl (Nat.le_of_ble_eq_true rfl) (fun X hX hR => ?_)
  unfold fX11_directionMany at h
  show VV X 1 ad cs M 0 [(0, .ref (ad 95))] []
  refine v_aload_n (pc := 0) 0 hX dX11_directionMany_0 rfl ?_
  refine v_getR (pc := 1) (t := 96) hX (hcs 95 (Nat.le_of_ble_eq_true rfl) (Nat.le_of_ble_eq_true rfl)) sh_95 fl_11_7 rfl dX11_directionMany_1 ?_
  refine v_iconst (pc := 4) hX dX11_directionMany_4 ic_2 ?_
  refine v_iald (pc := 5) hX (hcs 96 (Nat.le_of_ble_eq_true rfl) (Nat.le_of_ble_eq_true rfl)) sh_96 (ib_2 (by decide)) ix_2 dX11_directionMany_5 ?_
  obtain rfl := Option.some.inj h
  exact v_iret (pc := 6) hX hR dX11_directionMany_6
set_option maxHeartbeats 4000000 in
set_option maxRecDepth 100000 in
theorem c_X11_putDirection {ad : Nat → Nat} {cs : List Nat} (hcs : ∀ k, 95 ≤ k → k < 97 → k ∈ cs) (M : Mm) (w1 : Int32) (w2 : Int32) (w3 : Int32) (w4 : Int32) (q : Mm) (h : fX11_putDirection M w1 w2 w3 w4 = some q) : CT ad cs yX11_putDirection cX11_putDirection 5 none 0 0 [.ref (ad 95), .int w1, .int w2, .int w3, .int w4] M none q := by
  refine CT.of RX11 (by decide +kernel) rfl (Nat.le_of_ble_eq_true rfl) (fun X hX hR => ?_)
  unfold fX11_putDirection at h
  show VV X 5 ad cs M 0 [(0, .ref (ad 95)), (1, .int w1), (2, .int w2), (3, .int w3), (4, .int w4)] []
  refine v_aload_n (pc := 0) 0 hX dX11_putDirection_0 rfl ?_
  refine v_getR (pc := 1) (t := 96) hX (hcs 95 (Nat.le_of_ble_eq_true rfl) (Nat.le_of_ble_eq_true rfl)) sh_95 fl_11_7 rfl dX11_putDirection_1 ?_
  refine v_bipush (pc := 4) hX dX11_putDirection_4 bp_61 ?_
  refine v_iconst (pc := 6) hX dX11_putDirection_6 ic_4 ?_
  refine v_iload_n (pc := 7) 1 hX dX11_putDirection_7 rfl ?_
  refine v_imul (pc := 8) hX dX11_putDirection_8 ?_
  refine v_iadd (pc := 9) hX dX11_putDirection_9 ?_
  refine v_iload_n (pc := 10) 2 hX dX11_putDirection_10 rfl ?_
  obtain ⟨g1, h⟩ := gd_e h
  obtain ⟨M2, eM2, h⟩ := bd_e h
  refine v_iast (pc := 11) hX (hcs 96 (Nat.le_of_ble_eq_true rfl) (Nat.le_of_ble_eq_true rfl)) sh_96 g1 rfl dX11_putDirection_11 eM2 ?_
  refine v_aload_n (pc := 12) 0 hX dX11_putDirection_12 rfl ?_
  refine v_getR (pc := 13) (t := 96) hX (hcs 95 (Nat.le_of_ble_eq_true rfl) (Nat.le_of_ble_eq_true rfl)) sh_95 fl_11_7 rfl dX11_putDirection_13 ?_
  refine v_bipush (pc := 16) hX dX11_putDirection_16 bp_61 ?_
  refine v_iconst (pc := 18) hX dX11_putDirection_18 ic_4 ?_
  refine v_iload_n (pc := 19) 1 hX dX11_putDirection_19 rfl ?_
  refine v_imul (pc := 20) hX dX11_putDirection_20 ?_
  refine v_iadd (pc := 21) hX dX11_putDirection_21 ?_
  refine v_iconst (pc := 22) hX dX11_putDirection_22 ic_1 ?_
  refine v_iadd (pc := 23) hX dX11_putDirection_23 ?_
  refine v_iload_n (pc := 24) 3 hX dX11_putDirection_24 rfl ?_
  obtain ⟨g3, h⟩ := gd_e h
  obtain ⟨M4, eM4, h⟩ := bd_e h
  refine v_iast (pc := 25) hX (hcs 96 (Nat.le_of_ble_eq_true rfl) (Nat.le_of_ble_eq_true rfl)) sh_96 g3 rfl dX11_putDirection_25 eM4 ?_
  refine v_aload_n (pc := 26) 0 hX dX11_putDirection_26 rfl ?_
  refine v_getR (pc := 27) (t := 96) hX (hcs 95 (Nat.le_of_ble_eq_true rfl) (Nat.le_of_ble_eq_true rfl)) sh_95 fl_11_7 rfl dX11_putDirection_27 ?_
  refine v_bipush (pc := 30) hX dX11_putDirection_30 bp_61 ?_
  refine v_iconst (pc := 32) hX dX11_putDirection_32 ic_4 ?_
  refine v_iload_n (pc := 33) 1 hX dX11_putDirection_33 rfl ?_
  refine v_imul (pc := 34) hX dX11_putDirection_34 ?_
  refine v_iadd (pc := 35) hX dX11_putDirection_35 ?_
  refine v_iconst (pc := 36) hX dX11_putDirection_36 ic_2 ?_
  refine v_iadd (pc := 37) hX dX11_putDirection_37 ?_
  refine v_iload (pc := 38) 4 hX dX11_putDirection_38 rfl ?_
  obtain ⟨g5, h⟩ := gd_e h
  obtain ⟨M6, eM6, h⟩ := bd_e h
  refine v_iast (pc := 40) hX (hcs 96 (Nat.le_of_ble_eq_true rfl) (Nat.le_of_ble_eq_true rfl)) sh_96 g5 rfl dX11_putDirection_40 eM6 ?_
  refine v_aload_n (pc := 41) 0 hX dX11_putDirection_41 rfl ?_
  refine v_getR (pc := 42) (t := 96) hX (hcs 95 (Nat.le_of_ble_eq_true rfl) (Nat.le_of_ble_eq_true rfl)) sh_95 fl_11_7 rfl dX11_putDirection_42 ?_
  refine v_bipush (pc := 45) hX dX11_putDirection_45 bp_61 ?_
  refine v_iconst (pc := 47) hX dX11_putDirection_47 ic_4 ?_
  refine v_iload_n (pc := 48) 1 hX dX11_putDirection_48 rfl ?_
  refine v_imul (pc := 49) hX dX11_putDirection_49 ?_
  refine v_iadd (pc := 50) hX dX11_putDirection_50 ?_
  refine v_iconst (pc := 51) hX dX11_putDirection_51 ic_3 ?_
  refine v_iadd (pc := 52) hX dX11_putDirection_52 ?_
  refine v_iconst (pc := 53) hX dX11_putDirection_53 ic_0 ?_
  obtain ⟨g7, h⟩ := gd_e h
  obtain ⟨M8, eM8, h⟩ := bd_e h
  refine v_iast (pc := 54) hX (hcs 96 (Nat.le_of_ble_eq_true rfl) (Nat.le_of_ble_eq_true rfl)) sh_96 g7 rfl dX11_putDirection_54 eM8 ?_
  obtain rfl := Option.some.inj h
  exact v_vret (pc := 55) hX hR dX11_putDirection_55
set_option maxHeartbeats 4000000 in
set_option maxRecDepth 100000 in
theorem c_X11_step {ad : Nat → Nat} {cs : List Nat} (hcs : ∀ k, 95 ≤ k → k < 97 → k ∈ cs) (M : Mm) (w1 : Int32) (w2 : Int32) (q : Int32) (h : fX11_step M w1 w2 = some q) : CT ad cs yX11_step cX11_step 3 (some .int) 0 0 [.ref (ad 95), .int w1, .int w2] M (some (.int q)) M := by
  refine CT.of RX11 (by decide +kernel) rfl (Nat.le_of_ble_eq_true rfl) (fun X hX hR => ?_)
  unfold fX11_step at h
  show VV X 3 ad cs M 0 [(0, .ref (ad 95)), (1, .int w1), (2, .int w2)] []
  refine v_aload_n (pc := 0) 0 hX dX11_step_0 rfl ?_
  refine v_getR (pc := 1) (t := 96) hX (hcs 95 (Nat.le_of_ble_eq_true rfl) (Nat.le_of_ble_eq_true rfl)) sh_95 fl_11_7 rfl dX11_step_1 ?_
  refine v_bipush (pc := 4) hX dX11_step_4 bp_61 ?_
  refine v_iconst (pc := 6) hX dX11_step_6 ic_4 ?_
  refine v_iload_n (pc := 7) 1 hX dX11_step_7 rfl ?_
  refine v_imul (pc := 8) hX dX11_step_8 ?_
  refine v_iadd (pc := 9) hX dX11_step_9 ?_
  refine v_iload_n (pc := 10) 2 hX dX11_step_10 rfl ?_
  refine v_iadd (pc := 11) hX dX11_step_11 ?_
  obtain ⟨g1, h⟩ := gd_e h
  refine v_iald (pc := 12) hX (hcs 96 (Nat.le_of_ble_eq_true rfl) (Nat.le_of_ble_eq_true rfl)) sh_96 g1 rfl dX11_step_12 ?_
  obtain rfl := Option.some.inj h
  exact v_iret (pc := 13) hX hR dX11_step_13
set_option maxHeartbeats 4000000 in
set_option maxRecDepth 100000 in
theorem c_X11_direction {ad : Nat → Nat} {cs : List Nat} (hcs : ∀ k, 95 ≤ k → k < 98 → k ∈ cs) (M : Mm) (w1 : Int32) (w2 : Int32) (w3 : Int32) (q : Int32 × Mm) (h : fX11_direction M w1 w2 w3 = some q) : CT ad cs yX11_direction cX11_direction 6 (some .int) 1 24 [.ref (ad 95), .int w1, .int w2, .int w3] M (some (.int q.1)) q.2 := by
  refine CT.of RX11 (by decide +kernel) rfl (Nat.le_of_ble_eq_true rfl) (fun X hX hR => ?_)
  unfold fX11_direction at h
  show VV X 6 ad cs M 0 [(0, .ref (ad 95)), (1, .int w1), (2, .int w2), (3, .int w3)] []
  refine v_iload_n (pc := 0) 1 hX dX11_direction_0 rfl ?_
  refine v_bipush (pc := 1) hX dX11_direction_1 bp_m3 ?_
  refine v_iconst (pc := 3) hX dX11_direction_3 ic_3 ?_
  obtain ⟨x2, h1, h⟩ := b1_e h
  refine v_callS (pc := 4) [.int w1, .int (-3), .int 3] (some (.int x2)) M hX cv_11_48 (c_X11_in M w1 (-3) 3 x2 h1) rfl rfl ⟨Nat.le_of_ble_eq_true rfl, Nat.le_of_ble_eq_true rfl⟩ (Nat.le_of_ble_eq_true rfl) dX11_direction_4 ?_
  show VV X 6 ad cs M 7 [(0, .ref (ad 95)), (1, .int w1), (2, .int w2), (3, .int w3)] [.int x2]
  obtain ⟨k3, ek3, h⟩ := bd_e h
  have K4 : ∀ (x5 : Int32), k3 x5 = some q → VV X 6 ad cs M 45 [(0, .ref (ad 95)), (1, .int w1), (2, .int w2), (3, .int w3)] [.int x5] := by
    intro x5 h
    subst ek3
    refine v_istore (pc := 45) [(4, .int x5), (0, .ref (ad 95)), (1, .int w1), (2, .int w2), (3, .int w3)] hX dX11_direction_45 (by decide) rfl ?_
    refine v_iload (pc := 47) 0 hX dX11_direction_47 rfl ?_
    refine v_if_eq (pc := 49) (tgt := 64) hX dX11_direction_49 (by decide) (fun h6 => ?_) (fun h6 => ?_)
    · have h := if_t h h6
      refine v_ldc (pc := 64) hX kc_11_70 dX11_direction_64 ?_
      obtain rfl := Option.some.inj h
      exact v_iret (pc := 66) hX hR dX11_direction_66
    · have h := if_f h h6
      refine v_iload_n (pc := 52) 2 hX dX11_direction_52 rfl ?_
      obtain ⟨k7, ek7, h⟩ := bd_e h
      have K8 : ∀ (_ : Unit), k7 () = some q → VV X 6 ad cs M 67 [(0, .ref (ad 95)), (1, .int w1), (2, .int w2), (3, .int w3)] [] := by
        intro _ h
        subst ek7
        refine v_iconst (pc := 67) hX dX11_direction_67 ic_0 ?_
        refine v_istore (pc := 68) [(5, .int 0), (0, .ref (ad 95)), (1, .int w1), (2, .int w2), (3, .int w3)] hX dX11_direction_68 (by decide) rfl ?_
        have L25 := v_itr (fX11_direction_L70 M w1 w2 w3) (fun z => VV X 6 ad cs M 70 [(0, .ref (ad 95)), (1, .int w1), (2, .int w2), (3, .int w3), (5, .int z)] []) (Sum.elim (fun z => VV X 6 ad cs M 112 [] []) (fun z => VV X 6 ad cs M 121 [(0, .ref (ad 95)), (1, .int w1), (2, .int w2), (3, .int w3)] [])) (by
          rintro x9 q h hK
          unfold fX11_direction_L70 at h
          show VV X 6 ad cs M 70 [(0, .ref (ad 95)), (1, .int w1), (2, .int w2), (3, .int w3), (5, .int x9)] []
          refine v_iload (pc := 70) 4 hX dX11_direction_70 rfl ?_
          refine v_aload_n (pc := 72) 0 hX dX11_direction_72 rfl ?_
          obtain ⟨x11, h10, h⟩ := b1_e h
          refine v_callV (pc := 73) [] (some (.int x11)) M hX cv_11_95 (c_X11_directionMany (sub_cs hcs (Nat.le_of_ble_eq_true rfl) (Nat.le_of_ble_eq_true rfl)) M x11 h10) (hcs 95 (Nat.le_of_ble_eq_true rfl) (Nat.le_of_ble_eq_true rfl)) sh_95 rfl rfl rfl ⟨Nat.le_of_ble_eq_true rfl, Nat.le_of_ble_eq_true rfl⟩ (Nat.le_of_ble_eq_true rfl) dX11_direction_73 ?_
          show VV X 6 ad cs M 76 [(0, .ref (ad 95)), (1, .int w1), (2, .int w2), (3, .int w3), (5, .int x9)] [.int x11, .int x9]
          refine v_icmp_ge (pc := 76) (tgt := 121) hX dX11_direction_76 (by decide) (fun h12 => ?_) (fun h12 => ?_)
          · have h := if_t h h12
            obtain rfl := Option.some.inj h
            exact v_sub [0, 1, 2, 3] rfl hK
          · have h := if_f h h12
            refine v_aload_n (pc := 79) 0 hX dX11_direction_79 rfl ?_
            refine v_iload (pc := 80) 4 hX dX11_direction_80 rfl ?_
            refine v_iconst (pc := 82) hX dX11_direction_82 ic_0 ?_
            obtain ⟨x14, h13, h⟩ := b1_e h
            refine v_callV (pc := 83) [.int x9, .int 0] (some (.int x14)) M hX cv_11_98 (c_X11_step (sub_cs hcs (Nat.le_of_ble_eq_true rfl) (Nat.le_of_ble_eq_true rfl)) M x9 0 x14 h13) (hcs 95 (Nat.le_of_ble_eq_true rfl) (Nat.le_of_ble_eq_true rfl)) sh_95 rfl rfl rfl ⟨Nat.le_of_ble_eq_true rfl, Nat.le_of_ble_eq_true rfl⟩ (Nat.le_of_ble_eq_true rfl) dX11_direction_83 ?_
            show VV X 6 ad cs M 86 [(0, .ref (ad 95)), (1, .int w1), (2, .int w2), (3, .int w3), (5, .int x9)] [.int x14]
            refine v_iload_n (pc := 86) 1 hX dX11_direction_86 rfl ?_
            obtain ⟨k15, ek15, h⟩ := bd_e h
            have K16 : ∀ (_ : Unit), k15 () = some q → VV X 6 ad cs M 115 [(0, .ref (ad 95)), (1, .int w1), (2, .int w2), (3, .int w3), (5, .int x9)] [] := by
              intro _ h
              subst ek15
              obtain ⟨x17, ex17, h⟩ := bd_e h
              refine v_iinc (v := x17) (pc := 115) 4 [(5, .int x17), (0, .ref (ad 95)), (1, .int w1), (2, .int w2), (3, .int w3)] hX dX11_direction_115 rfl (ex17.trans (by rw [ic_1])) (by decide) rfl ?_
              refine v_goto (pc := 118) (tgt := 70) hX dX11_direction_118 (by decide) ?_
              obtain rfl := Option.some.inj h
              exact v_sub [1, 2, 3, 4, 0] rfl hK
            refine v_icmp_ne (pc := 87) (tgt := 115) hX dX11_direction_87 (by decide) (fun h18 => ?_) (fun h18 => ?_)
            · have h := if_f h h18
              exact v_sub [0, 1, 2, 3, 4] rfl (K16 () h)
            · have h := if_t h h18
              refine v_aload_n (pc := 90) 0 hX dX11_direction_90 rfl ?_
              refine v_iload (pc := 91) 4 hX dX11_direction_91 rfl ?_
              refine v_iconst (pc := 93) hX dX11_direction_93 ic_1 ?_
              obtain ⟨x20, h19, h⟩ := b1_e h
              refine v_callV (pc := 94) [.int x9, .int 1] (some (.int x20)) M hX cv_11_98 (c_X11_step (sub_cs hcs (Nat.le_of_ble_eq_true rfl) (Nat.le_of_ble_eq_true rfl)) M x9 1 x20 h19) (hcs 95 (Nat.le_of_ble_eq_true rfl) (Nat.le_of_ble_eq_true rfl)) sh_95 rfl rfl rfl ⟨Nat.le_of_ble_eq_true rfl, Nat.le_of_ble_eq_true rfl⟩ (Nat.le_of_ble_eq_true rfl) dX11_direction_94 ?_
              show VV X 6 ad cs M 97 [(0, .ref (ad 95)), (1, .int w1), (2, .int w2), (3, .int w3), (5, .int x9)] [.int x20]
              refine v_iload_n (pc := 97) 2 hX dX11_direction_97 rfl ?_
              refine v_icmp_ne (pc := 98) (tgt := 115) hX dX11_direction_98 (by decide) (fun h21 => ?_) (fun h21 => ?_)
              · have h := if_f h h21
                exact v_sub [0, 1, 2, 3, 4] rfl (K16 () h)
              · have h := if_t h h21
                refine v_aload_n (pc := 101) 0 hX dX11_direction_101 rfl ?_
                refine v_iload (pc := 102) 4 hX dX11_direction_102 rfl ?_
                refine v_iconst (pc := 104) hX dX11_direction_104 ic_2 ?_
                obtain ⟨x23, h22, h⟩ := b1_e h
                refine v_callV (pc := 105) [.int x9, .int 2] (some (.int x23)) M hX cv_11_98 (c_X11_step (sub_cs hcs (Nat.le_of_ble_eq_true rfl) (Nat.le_of_ble_eq_true rfl)) M x9 2 x23 h22) (hcs 95 (Nat.le_of_ble_eq_true rfl) (Nat.le_of_ble_eq_true rfl)) sh_95 rfl rfl rfl ⟨Nat.le_of_ble_eq_true rfl, Nat.le_of_ble_eq_true rfl⟩ (Nat.le_of_ble_eq_true rfl) dX11_direction_105 ?_
                show VV X 6 ad cs M 108 [(0, .ref (ad 95)), (1, .int w1), (2, .int w2), (3, .int w3), (5, .int x9)] [.int x23]
                refine v_iload_n (pc := 108) 3 hX dX11_direction_108 rfl ?_
                refine v_icmp_ne (pc := 109) (tgt := 115) hX dX11_direction_109 (by decide) (fun h24 => ?_) (fun h24 => ?_)
                · have h := if_f h h24
                  exact v_sub [0, 1, 2, 3, 4] rfl (K16 () h)
                · have h := if_t h h24
                  obtain rfl := Option.some.inj h
                  exact v_sub [] rfl hK
        )
        rcases bs_e h with ⟨_, h38, h⟩ | ⟨_, h38, h⟩
        · refine v_sub [1, 2, 3, 4, 0] rfl ?_
          refine L25 1000 _ _ h38 ?_
          show VV X 6 ad cs M 112 [] []
          refine v_ldc (pc := 112) hX kc_11_40 dX11_direction_112 ?_
          obtain rfl := Option.some.inj h
          exact v_iret (pc := 114) hX hR dX11_direction_114
        · refine v_sub [1, 2, 3, 4, 0] rfl ?_
          refine L25 1000 _ _ h38 ?_
          show VV X 6 ad cs M 121 [(0, .ref (ad 95)), (1, .int w1), (2, .int w2), (3, .int w3)] []
          refine v_aload_n (pc := 121) 0 hX dX11_direction_121 rfl ?_
          obtain ⟨x27, h26, h⟩ := b1_e h
          refine v_callV (pc := 122) [] (some (.int x27)) M hX cv_11_95 (c_X11_directionMany (sub_cs hcs (Nat.le_of_ble_eq_true rfl) (Nat.le_of_ble_eq_true rfl)) M x27 h26) (hcs 95 (Nat.le_of_ble_eq_true rfl) (Nat.le_of_ble_eq_true rfl)) sh_95 rfl rfl rfl ⟨Nat.le_of_ble_eq_true rfl, Nat.le_of_ble_eq_true rfl⟩ (Nat.le_of_ble_eq_true rfl) dX11_direction_122 ?_
          show VV X 6 ad cs M 125 [(0, .ref (ad 95)), (1, .int w1), (2, .int w2), (3, .int w3)] [.int x27]
          refine v_bipush (pc := 125) hX dX11_direction_125 bp_8 ?_
          refine v_icmp_ne (pc := 127) (tgt := 133) hX dX11_direction_127 (by decide) (fun h28 => ?_) (fun h28 => ?_)
          · have h := if_f h h28
            refine v_aload_n (pc := 133) 0 hX dX11_direction_133 rfl ?_
            obtain ⟨M30, h29, h⟩ := b1_e h
            refine v_callV (pc := 134) [] none M30 hX cv_11_45 (c_X11_record (sub_cs hcs (Nat.le_of_ble_eq_true rfl) (Nat.le_of_ble_eq_true rfl)) M M30 h29) (hcs 95 (Nat.le_of_ble_eq_true rfl) (Nat.le_of_ble_eq_true rfl)) sh_95 rfl rfl rfl ⟨Nat.le_of_ble_eq_true rfl, Nat.le_of_ble_eq_true rfl⟩ (Nat.le_of_ble_eq_true rfl) dX11_direction_134 ?_
            show VV X 6 ad cs M30 137 [(0, .ref (ad 95)), (1, .int w1), (2, .int w2), (3, .int w3)] []
            refine v_aload_n (pc := 137) 0 hX dX11_direction_137 rfl ?_
            refine v_aload_n (pc := 138) 0 hX dX11_direction_138 rfl ?_
            obtain ⟨x32, h31, h⟩ := b1_e h
            refine v_callV (pc := 139) [] (some (.int x32)) M30 hX cv_11_95 (c_X11_directionMany (sub_cs hcs (Nat.le_of_ble_eq_true rfl) (Nat.le_of_ble_eq_true rfl)) M30 x32 h31) (hcs 95 (Nat.le_of_ble_eq_true rfl) (Nat.le_of_ble_eq_true rfl)) sh_95 rfl rfl rfl ⟨Nat.le_of_ble_eq_true rfl, Nat.le_of_ble_eq_true rfl⟩ (Nat.le_of_ble_eq_true rfl) dX11_direction_139 ?_
            show VV X 6 ad cs M30 142 [(0, .ref (ad 95)), (1, .int w1), (2, .int w2), (3, .int w3)] [.int x32, .ref (ad 95)]
            refine v_iload_n (pc := 142) 1 hX dX11_direction_142 rfl ?_
            refine v_iload_n (pc := 143) 2 hX dX11_direction_143 rfl ?_
            refine v_iload_n (pc := 144) 3 hX dX11_direction_144 rfl ?_
            obtain ⟨M34, h33, h⟩ := b1_e h
            refine v_callV (pc := 145) [.int x32, .int w1, .int w2, .int w3] none M34 hX cv_11_102 (c_X11_putDirection (sub_cs hcs (Nat.le_of_ble_eq_true rfl) (Nat.le_of_ble_eq_true rfl)) M30 x32 w1 w2 w3 M34 h33) (hcs 95 (Nat.le_of_ble_eq_true rfl) (Nat.le_of_ble_eq_true rfl)) sh_95 rfl rfl rfl ⟨Nat.le_of_ble_eq_true rfl, Nat.le_of_ble_eq_true rfl⟩ (Nat.le_of_ble_eq_true rfl) dX11_direction_145 ?_
            show VV X 6 ad cs M34 148 [(0, .ref (ad 95)), (1, .int w1), (2, .int w2), (3, .int w3)] []
            refine v_aload_n (pc := 148) 0 hX dX11_direction_148 rfl ?_
            refine v_iconst (pc := 149) hX dX11_direction_149 ic_2 ?_
            obtain ⟨x36, M37, h35, h⟩ := b2_e h
            refine v_callV (pc := 150) [.int 2] (some (.int x36)) M37 hX cv_11_80 (c_X11_oneMore (sub_cs hcs (Nat.le_of_ble_eq_true rfl) (Nat.le_of_ble_eq_true rfl)) M34 2 (x36, M37) h35) (hcs 95 (Nat.le_of_ble_eq_true rfl) (Nat.le_of_ble_eq_true rfl)) sh_95 rfl rfl rfl ⟨Nat.le_of_ble_eq_true rfl, Nat.le_of_ble_eq_true rfl⟩ (Nat.le_of_ble_eq_true rfl) dX11_direction_150 ?_
            show VV X 6 ad cs M37 153 [(0, .ref (ad 95)), (1, .int w1), (2, .int w2), (3, .int w3)] [.int x36]
            refine v_iconst (pc := 153) hX dX11_direction_153 ic_1 ?_
            refine v_isub (pc := 154) hX dX11_direction_154 ?_
            obtain rfl := Option.some.inj h
            exact v_iret (pc := 155) hX hR dX11_direction_155
          · have h := if_t h h28
            refine v_ldc (pc := 130) hX kc_11_75 dX11_direction_130 ?_
            obtain rfl := Option.some.inj h
            exact v_iret (pc := 132) hX hR dX11_direction_132
      refine v_if_ne (pc := 53) (tgt := 67) hX dX11_direction_53 (by decide) (fun h39 => ?_) (fun h39 => ?_)
      · have h := if_f h h39
        exact v_sub [1, 2, 3, 4] rfl (K8 () h)
      · have h := if_t h h39
        refine v_iload_n (pc := 56) 3 hX dX11_direction_56 rfl ?_
        refine v_if_ne (pc := 57) (tgt := 67) hX dX11_direction_57 (by decide) (fun h40 => ?_) (fun h40 => ?_)
        · have h := if_f h h40
          exact v_sub [1, 2, 3, 4] rfl (K8 () h)
        · have h := if_t h h40
          refine v_iload_n (pc := 60) 4 hX dX11_direction_60 rfl ?_
          refine v_if_ne (pc := 61) (tgt := 67) hX dX11_direction_61 (by decide) (fun h41 => ?_) (fun h41 => ?_)
          · have h := if_f h h41
            exact v_sub [1, 2, 3, 4] rfl (K8 () h)
          · have h := if_t h h41
            refine v_ldc (pc := 64) hX kc_11_70 dX11_direction_64 ?_
            obtain rfl := Option.some.inj h
            exact v_iret (pc := 66) hX hR dX11_direction_66
  obtain ⟨k42, ek42, h⟩ := bd_e h
  have K43 : ∀ (_ : Unit), k42 () = some q → VV X 6 ad cs M 44 [(0, .ref (ad 95)), (1, .int w1), (2, .int w2), (3, .int w3)] [] := by
    intro _ h
    subst ek42
    refine v_iconst (pc := 44) hX dX11_direction_44 ic_0 ?_
    exact v_sub [0, 1, 2, 3] rfl (K4 0 h)
  refine v_if_eq (pc := 7) (tgt := 44) hX dX11_direction_7 (by decide) (fun h44 => ?_) (fun h44 => ?_)
  · have h := if_t h h44
    exact v_sub [0, 1, 2, 3] rfl (K43 () h)
  · have h := if_f h h44
    refine v_iload_n (pc := 10) 2 hX dX11_direction_10 rfl ?_
    refine v_bipush (pc := 11) hX dX11_direction_11 bp_m3 ?_
    refine v_iconst (pc := 13) hX dX11_direction_13 ic_3 ?_
    obtain ⟨x46, h45, h⟩ := b1_e h
    refine v_callS (pc := 14) [.int w2, .int (-3), .int 3] (some (.int x46)) M hX cv_11_48 (c_X11_in M w2 (-3) 3 x46 h45) rfl rfl ⟨Nat.le_of_ble_eq_true rfl, Nat.le_of_ble_eq_true rfl⟩ (Nat.le_of_ble_eq_true rfl) dX11_direction_14 ?_
    show VV X 6 ad cs M 17 [(0, .ref (ad 95)), (1, .int w1), (2, .int w2), (3, .int w3)] [.int x46]
    refine v_if_eq (pc := 17) (tgt := 44) hX dX11_direction_17 (by decide) (fun h47 => ?_) (fun h47 => ?_)
    · have h := if_t h h47
      exact v_sub [0, 1, 2, 3] rfl (K43 () h)
    · have h := if_f h h47
      refine v_iload_n (pc := 20) 3 hX dX11_direction_20 rfl ?_
      refine v_bipush (pc := 21) hX dX11_direction_21 bp_m3 ?_
      refine v_iconst (pc := 23) hX dX11_direction_23 ic_3 ?_
      obtain ⟨x49, h48, h⟩ := b1_e h
      refine v_callS (pc := 24) [.int w3, .int (-3), .int 3] (some (.int x49)) M hX cv_11_48 (c_X11_in M w3 (-3) 3 x49 h48) rfl rfl ⟨Nat.le_of_ble_eq_true rfl, Nat.le_of_ble_eq_true rfl⟩ (Nat.le_of_ble_eq_true rfl) dX11_direction_24 ?_
      show VV X 6 ad cs M 27 [(0, .ref (ad 95)), (1, .int w1), (2, .int w2), (3, .int w3)] [.int x49]
      refine v_if_eq (pc := 27) (tgt := 44) hX dX11_direction_27 (by decide) (fun h50 => ?_) (fun h50 => ?_)
      · have h := if_t h h50
        exact v_sub [0, 1, 2, 3] rfl (K43 () h)
      · have h := if_f h h50
        refine v_aload_n (pc := 30) 0 hX dX11_direction_30 rfl ?_
        refine v_iload_n (pc := 31) 1 hX dX11_direction_31 rfl ?_
        refine v_iload_n (pc := 32) 2 hX dX11_direction_32 rfl ?_
        refine v_iload_n (pc := 33) 3 hX dX11_direction_33 rfl ?_
        obtain ⟨x52, h51, h⟩ := b1_e h
        refine v_callV (pc := 34) [.int w1, .int w2, .int w3] (some (.int x52)) M hX cv_11_52 (c_X11_areOfVariables (sub_cs hcs (Nat.le_of_ble_eq_true rfl) (Nat.le_of_ble_eq_true rfl)) M w1 w2 w3 x52 h51) (hcs 95 (Nat.le_of_ble_eq_true rfl) (Nat.le_of_ble_eq_true rfl)) sh_95 rfl rfl rfl ⟨Nat.le_of_ble_eq_true rfl, Nat.le_of_ble_eq_true rfl⟩ (Nat.le_of_ble_eq_true rfl) dX11_direction_34 ?_
        show VV X 6 ad cs M 37 [(0, .ref (ad 95)), (1, .int w1), (2, .int w2), (3, .int w3)] [.int x52]
        refine v_if_eq (pc := 37) (tgt := 44) hX dX11_direction_37 (by decide) (fun h53 => ?_) (fun h53 => ?_)
        · have h := if_t h h53
          exact v_sub [0, 1, 2, 3] rfl (K43 () h)
        · have h := if_f h h53
          refine v_iconst (pc := 40) hX dX11_direction_40 ic_1 ?_
          refine v_goto (pc := 41) (tgt := 45) hX dX11_direction_41 (by decide) ?_
          exact v_sub [0, 1, 2, 3] rfl (K4 1 h)
set_option maxHeartbeats 4000000 in
set_option maxRecDepth 100000 in
theorem c_X11_dropDirection {ad : Nat → Nat} {cs : List Nat} (hcs : ∀ k, 95 ≤ k → k < 98 → k ∈ cs) (M : Mm) (w1 : Int32) (q : Int32 × Mm) (h : fX11_dropDirection M w1 = some q) : CT ad cs yX11_dropDirection cX11_dropDirection 3 (some .int) 1 21 [.ref (ad 95), .int w1] M (some (.int q.1)) q.2 := by
  refine CT.of RX11 (by decide +kernel) rfl (Nat.le_of_ble_eq_true rfl) (fun X hX hR => ?_)
  unfold fX11_dropDirection at h
  show VV X 3 ad cs M 0 [(0, .ref (ad 95)), (1, .int w1)] []
  refine v_iload_n (pc := 0) 1 hX dX11_dropDirection_0 rfl ?_
  refine v_if_ge (pc := 1) (tgt := 7) hX dX11_dropDirection_1 (by decide) (fun h1 => ?_) (fun h1 => ?_)
  · have h := if_t h h1
    refine v_iload_n (pc := 7) 1 hX dX11_dropDirection_7 rfl ?_
    refine v_aload_n (pc := 8) 0 hX dX11_dropDirection_8 rfl ?_
    refine v_getR (pc := 9) (t := 96) hX (hcs 95 (Nat.le_of_ble_eq_true rfl) (Nat.le_of_ble_eq_true rfl)) sh_95 fl_11_7 rfl dX11_dropDirection_9 ?_
    refine v_iconst (pc := 12) hX dX11_dropDirection_12 ic_2 ?_
    refine v_iald (pc := 13) hX (hcs 96 (Nat.le_of_ble_eq_true rfl) (Nat.le_of_ble_eq_true rfl)) sh_96 (ib_2 (by decide)) ix_2 dX11_dropDirection_13 ?_
    refine v_icmp_lt (pc := 14) (tgt := 20) hX dX11_dropDirection_14 (by decide) (fun h2 => ?_) (fun h2 => ?_)
    · have h := if_t h h2
      refine v_aload_n (pc := 20) 0 hX dX11_dropDirection_20 rfl ?_
      obtain ⟨M4, h3, h⟩ := b1_e h
      refine v_callV (pc := 21) [] none M4 hX cv_11_45 (c_X11_record (sub_cs hcs (Nat.le_of_ble_eq_true rfl) (Nat.le_of_ble_eq_true rfl)) M M4 h3) (hcs 95 (Nat.le_of_ble_eq_true rfl) (Nat.le_of_ble_eq_true rfl)) sh_95 rfl rfl rfl ⟨Nat.le_of_ble_eq_true rfl, Nat.le_of_ble_eq_true rfl⟩ (Nat.le_of_ble_eq_true rfl) dX11_dropDirection_21 ?_
      show VV X 3 ad cs M4 24 [(0, .ref (ad 95)), (1, .int w1)] []
      refine v_aload_n (pc := 24) 0 hX dX11_dropDirection_24 rfl ?_
      refine v_getR (pc := 25) (t := 96) hX (hcs 95 (Nat.le_of_ble_eq_true rfl) (Nat.le_of_ble_eq_true rfl)) sh_95 fl_11_7 rfl dX11_dropDirection_25 ?_
      refine v_iconst (pc := 28) hX dX11_dropDirection_28 ic_2 ?_
      refine v_dup2 (pc := 29) hX dX11_dropDirection_29 rfl rfl ?_
      refine v_iald (pc := 30) hX (hcs 96 (Nat.le_of_ble_eq_true rfl) (Nat.le_of_ble_eq_true rfl)) sh_96 (ib_2 (by decide)) ix_2 dX11_dropDirection_30 ?_
      refine v_iconst (pc := 31) hX dX11_dropDirection_31 ic_1 ?_
      refine v_isub (pc := 32) hX dX11_dropDirection_32 ?_
      obtain ⟨M5, eM5, h⟩ := bd_e h
      refine v_iast (pc := 33) hX (hcs 96 (Nat.le_of_ble_eq_true rfl) (Nat.le_of_ble_eq_true rfl)) sh_96 (ib_2 (by decide)) ix_2 dX11_dropDirection_33 eM5 ?_
      refine v_bipush (pc := 34) hX dX11_dropDirection_34 bp_61 ?_
      refine v_iconst (pc := 36) hX dX11_dropDirection_36 ic_4 ?_
      refine v_iload_n (pc := 37) 1 hX dX11_dropDirection_37 rfl ?_
      refine v_imul (pc := 38) hX dX11_dropDirection_38 ?_
      refine v_iadd (pc := 39) hX dX11_dropDirection_39 ?_
      obtain ⟨x6, ex6, h⟩ := bd_e h
      refine v_top ex6 ?_
      refine v_istore_n (pc := 40) [(2, .int x6), (0, .ref (ad 95)), (1, .int w1)] hX dX11_dropDirection_40 (by decide) rfl ?_
      have L14 := v_itr (fX11_dropDirection_L41) (fun z => VV X 3 ad cs z.2 41 [(0, .ref (ad 95)), (1, .int w1), (2, .int z.1)] []) (fun z => VV X 3 ad cs z 76 [(0, .ref (ad 95)), (1, .int w1)] []) (by
        rintro ⟨x7, M8⟩ q h hK
        unfold fX11_dropDirection_L41 at h
        have h := u2_b h
        show VV X 3 ad cs M8 41 [(0, .ref (ad 95)), (1, .int w1), (2, .int x7)] []
        refine v_iload_n (pc := 41) 2 hX dX11_dropDirection_41 rfl ?_
        refine v_bipush (pc := 42) hX dX11_dropDirection_42 bp_61 ?_
        refine v_iconst (pc := 44) hX dX11_dropDirection_44 ic_4 ?_
        refine v_aload_n (pc := 45) 0 hX dX11_dropDirection_45 rfl ?_
        refine v_getR (pc := 46) (t := 96) hX (hcs 95 (Nat.le_of_ble_eq_true rfl) (Nat.le_of_ble_eq_true rfl)) sh_95 fl_11_7 rfl dX11_dropDirection_46 ?_
        refine v_iconst (pc := 49) hX dX11_dropDirection_49 ic_2 ?_
        refine v_iald (pc := 50) hX (hcs 96 (Nat.le_of_ble_eq_true rfl) (Nat.le_of_ble_eq_true rfl)) sh_96 (ib_2 (by decide)) ix_2 dX11_dropDirection_50 ?_
        refine v_imul (pc := 51) hX dX11_dropDirection_51 ?_
        refine v_iadd (pc := 52) hX dX11_dropDirection_52 ?_
        refine v_icmp_ge (pc := 53) (tgt := 76) hX dX11_dropDirection_53 (by decide) (fun h9 => ?_) (fun h9 => ?_)
        · have h := if_t h h9
          obtain rfl := Option.some.inj h
          exact v_sub [0, 1] rfl hK
        · have h := if_f h h9
          refine v_aload_n (pc := 56) 0 hX dX11_dropDirection_56 rfl ?_
          refine v_getR (pc := 57) (t := 96) hX (hcs 95 (Nat.le_of_ble_eq_true rfl) (Nat.le_of_ble_eq_true rfl)) sh_95 fl_11_7 rfl dX11_dropDirection_57 ?_
          refine v_iload_n (pc := 60) 2 hX dX11_dropDirection_60 rfl ?_
          refine v_aload_n (pc := 61) 0 hX dX11_dropDirection_61 rfl ?_
          refine v_getR (pc := 62) (t := 96) hX (hcs 95 (Nat.le_of_ble_eq_true rfl) (Nat.le_of_ble_eq_true rfl)) sh_95 fl_11_7 rfl dX11_dropDirection_62 ?_
          refine v_iload_n (pc := 65) 2 hX dX11_dropDirection_65 rfl ?_
          refine v_iconst (pc := 66) hX dX11_dropDirection_66 ic_4 ?_
          refine v_iadd (pc := 67) hX dX11_dropDirection_67 ?_
          obtain ⟨g10, h⟩ := gd_e h
          refine v_iald (pc := 68) hX (hcs 96 (Nat.le_of_ble_eq_true rfl) (Nat.le_of_ble_eq_true rfl)) sh_96 g10 rfl dX11_dropDirection_68 ?_
          obtain ⟨g11, h⟩ := gd_e h
          obtain ⟨M12, eM12, h⟩ := bd_e h
          refine v_iast (pc := 69) hX (hcs 96 (Nat.le_of_ble_eq_true rfl) (Nat.le_of_ble_eq_true rfl)) sh_96 g11 rfl dX11_dropDirection_69 eM12 ?_
          obtain ⟨x13, ex13, h⟩ := bd_e h
          refine v_iinc (v := x13) (pc := 70) 2 [(2, .int x13), (0, .ref (ad 95)), (1, .int w1)] hX dX11_dropDirection_70 rfl (ex13.trans (by rw [ic_1])) (by decide) rfl ?_
          refine v_goto (pc := 73) (tgt := 41) hX dX11_dropDirection_73 (by decide) ?_
          obtain rfl := Option.some.inj h
          exact v_sub [1, 2, 0] rfl hK
      )
      obtain ⟨M15, h21, h⟩ := b1_e h
      refine v_sub [1, 2, 0] rfl ?_
      refine L14 1000 _ _ h21 ?_
      show VV X 3 ad cs M15 76 [(0, .ref (ad 95)), (1, .int w1)] []
      refine v_aload_n (pc := 76) 0 hX dX11_dropDirection_76 rfl ?_
      refine v_getR (pc := 77) (t := 96) hX (hcs 95 (Nat.le_of_ble_eq_true rfl) (Nat.le_of_ble_eq_true rfl)) sh_95 fl_11_7 rfl dX11_dropDirection_77 ?_
      refine v_bipush (pc := 80) hX dX11_dropDirection_80 bp_9 ?_
      refine v_aload_n (pc := 82) 0 hX dX11_dropDirection_82 rfl ?_
      refine v_getR (pc := 83) (t := 96) hX (hcs 95 (Nat.le_of_ble_eq_true rfl) (Nat.le_of_ble_eq_true rfl)) sh_95 fl_11_7 rfl dX11_dropDirection_83 ?_
      refine v_bipush (pc := 86) hX dX11_dropDirection_86 bp_9 ?_
      refine v_iald (pc := 88) hX (hcs 96 (Nat.le_of_ble_eq_true rfl) (Nat.le_of_ble_eq_true rfl)) sh_96 (ib_9 (by decide)) ix_9 dX11_dropDirection_88 ?_
      refine v_iload_n (pc := 89) 1 hX dX11_dropDirection_89 rfl ?_
      refine v_icmp_ne (pc := 90) (tgt := 97) hX dX11_dropDirection_90 (by decide) (fun h16 => ?_) (fun h16 => ?_)
      · have h := if_f h h16
        refine v_aload_n (pc := 97) 0 hX dX11_dropDirection_97 rfl ?_
        refine v_getR (pc := 98) (t := 96) hX (hcs 95 (Nat.le_of_ble_eq_true rfl) (Nat.le_of_ble_eq_true rfl)) sh_95 fl_11_7 rfl dX11_dropDirection_98 ?_
        refine v_bipush (pc := 101) hX dX11_dropDirection_101 bp_9 ?_
        refine v_iald (pc := 103) hX (hcs 96 (Nat.le_of_ble_eq_true rfl) (Nat.le_of_ble_eq_true rfl)) sh_96 (ib_9 (by decide)) ix_9 dX11_dropDirection_103 ?_
        refine v_iload_n (pc := 104) 1 hX dX11_dropDirection_104 rfl ?_
        refine v_icmp_le (pc := 105) (tgt := 120) hX dX11_dropDirection_105 (by decide) (fun h17 => ?_) (fun h17 => ?_)
        · have h := if_t h h17
          refine v_aload_n (pc := 120) 0 hX dX11_dropDirection_120 rfl ?_
          refine v_getR (pc := 121) (t := 96) hX (hcs 95 (Nat.le_of_ble_eq_true rfl) (Nat.le_of_ble_eq_true rfl)) sh_95 fl_11_7 rfl dX11_dropDirection_121 ?_
          refine v_bipush (pc := 124) hX dX11_dropDirection_124 bp_9 ?_
          refine v_iald (pc := 126) hX (hcs 96 (Nat.le_of_ble_eq_true rfl) (Nat.le_of_ble_eq_true rfl)) sh_96 (ib_9 (by decide)) ix_9 dX11_dropDirection_126 ?_
          obtain ⟨M18, eM18, h⟩ := bd_e h
          refine v_iast (pc := 127) hX (hcs 96 (Nat.le_of_ble_eq_true rfl) (Nat.le_of_ble_eq_true rfl)) sh_96 (ib_9 (by decide)) ix_9 dX11_dropDirection_127 eM18 ?_
          refine v_aload_n (pc := 128) 0 hX dX11_dropDirection_128 rfl ?_
          refine v_getR (pc := 129) (t := 96) hX (hcs 95 (Nat.le_of_ble_eq_true rfl) (Nat.le_of_ble_eq_true rfl)) sh_95 fl_11_7 rfl dX11_dropDirection_129 ?_
          refine v_iconst (pc := 132) hX dX11_dropDirection_132 ic_2 ?_
          refine v_iald (pc := 133) hX (hcs 96 (Nat.le_of_ble_eq_true rfl) (Nat.le_of_ble_eq_true rfl)) sh_96 (ib_2 (by decide)) ix_2 dX11_dropDirection_133 ?_
          obtain rfl := Option.some.inj h
          exact v_iret (pc := 134) hX hR dX11_dropDirection_134
        · have h := if_f h h17
          refine v_aload_n (pc := 108) 0 hX dX11_dropDirection_108 rfl ?_
          refine v_getR (pc := 109) (t := 96) hX (hcs 95 (Nat.le_of_ble_eq_true rfl) (Nat.le_of_ble_eq_true rfl)) sh_95 fl_11_7 rfl dX11_dropDirection_109 ?_
          refine v_bipush (pc := 112) hX dX11_dropDirection_112 bp_9 ?_
          refine v_iald (pc := 114) hX (hcs 96 (Nat.le_of_ble_eq_true rfl) (Nat.le_of_ble_eq_true rfl)) sh_96 (ib_9 (by decide)) ix_9 dX11_dropDirection_114 ?_
          refine v_iconst (pc := 115) hX dX11_dropDirection_115 ic_1 ?_
          refine v_isub (pc := 116) hX dX11_dropDirection_116 ?_
          refine v_goto (pc := 117) (tgt := 127) hX dX11_dropDirection_117 (by decide) ?_
          obtain ⟨M19, eM19, h⟩ := bd_e h
          refine v_iast (pc := 127) hX (hcs 96 (Nat.le_of_ble_eq_true rfl) (Nat.le_of_ble_eq_true rfl)) sh_96 (ib_9 (by decide)) ix_9 dX11_dropDirection_127 eM19 ?_
          refine v_aload_n (pc := 128) 0 hX dX11_dropDirection_128 rfl ?_
          refine v_getR (pc := 129) (t := 96) hX (hcs 95 (Nat.le_of_ble_eq_true rfl) (Nat.le_of_ble_eq_true rfl)) sh_95 fl_11_7 rfl dX11_dropDirection_129 ?_
          refine v_iconst (pc := 132) hX dX11_dropDirection_132 ic_2 ?_
          refine v_iald (pc := 133) hX (hcs 96 (Nat.le_of_ble_eq_true rfl) (Nat.le_of_ble_eq_true rfl)) sh_96 (ib_2 (by decide)) ix_2 dX11_dropDirection_133 ?_
          obtain rfl := Option.some.inj h
          exact v_iret (pc := 134) hX hR dX11_dropDirection_134
      · have h := if_t h h16
        refine v_iconst (pc := 93) hX dX11_dropDirection_93 ic_m1 ?_
        refine v_goto (pc := 94) (tgt := 127) hX dX11_dropDirection_94 (by decide) ?_
        obtain ⟨M20, eM20, h⟩ := bd_e h
        refine v_iast (pc := 127) hX (hcs 96 (Nat.le_of_ble_eq_true rfl) (Nat.le_of_ble_eq_true rfl)) sh_96 (ib_9 (by decide)) ix_9 dX11_dropDirection_127 eM20 ?_
        refine v_aload_n (pc := 128) 0 hX dX11_dropDirection_128 rfl ?_
        refine v_getR (pc := 129) (t := 96) hX (hcs 95 (Nat.le_of_ble_eq_true rfl) (Nat.le_of_ble_eq_true rfl)) sh_95 fl_11_7 rfl dX11_dropDirection_129 ?_
        refine v_iconst (pc := 132) hX dX11_dropDirection_132 ic_2 ?_
        refine v_iald (pc := 133) hX (hcs 96 (Nat.le_of_ble_eq_true rfl) (Nat.le_of_ble_eq_true rfl)) sh_96 (ib_2 (by decide)) ix_2 dX11_dropDirection_133 ?_
        obtain rfl := Option.some.inj h
        exact v_iret (pc := 134) hX hR dX11_dropDirection_134
    · have h := if_f h h2
      refine v_ldc (pc := 17) hX kc_11_40 dX11_dropDirection_17 ?_
      obtain rfl := Option.some.inj h
      exact v_iret (pc := 19) hX hR dX11_dropDirection_19
  · have h := if_f h h1
    refine v_ldc (pc := 4) hX kc_11_70 dX11_dropDirection_4 ?_
    obtain rfl := Option.some.inj h
    exact v_iret (pc := 6) hX hR dX11_dropDirection_6
set_option maxHeartbeats 4000000 in
set_option maxRecDepth 100000 in
theorem c_X11_arePlace {ad : Nat → Nat} {cs : List Nat} (hcs : ∀ k, 95 ≤ k → k < 97 → k ∈ cs) (M : Mm) (w1 : Int32) (w2 : Int32) (w3 : Int32) (q : Int32) (h : fX11_arePlace M w1 w2 w3 = some q) : CT ad cs yX11_arePlace cX11_arePlace 4 (some .boolean) 1 23 [.ref (ad 95), .int w1, .int w2, .int w3] M (some (.int q)) M := by
  refine CT.of RX11 (by decide +kernel) rfl (Nat.le_of_ble_eq_true rfl) (fun X hX hR => ?_)
  unfold fX11_arePlace at h
  show VV X 4 ad cs M 0 [(0, .ref (ad 95)), (1, .int w1), (2, .int w2), (3, .int w3)] []
  refine v_iload_n (pc := 0) 1 hX dX11_arePlace_0 rfl ?_
  refine v_bipush (pc := 1) hX dX11_arePlace_1 bp_m50 ?_
  refine v_bipush (pc := 3) hX dX11_arePlace_3 bp_50 ?_
  obtain ⟨x2, h1, h⟩ := b1_e h
  refine v_callS (pc := 5) [.int w1, .int (-50), .int 50] (some (.int x2)) M hX cv_11_48 (c_X11_in M w1 (-50) 50 x2 h1) rfl rfl ⟨Nat.le_of_ble_eq_true rfl, Nat.le_of_ble_eq_true rfl⟩ (Nat.le_of_ble_eq_true rfl) dX11_arePlace_5 ?_
  show VV X 4 ad cs M 8 [(0, .ref (ad 95)), (1, .int w1), (2, .int w2), (3, .int w3)] [.int x2]
  refine v_if_eq (pc := 8) (tgt := 47) hX dX11_arePlace_8 (by decide) (fun h3 => ?_) (fun h3 => ?_)
  · have h := if_t h h3
    refine v_iconst (pc := 47) hX dX11_arePlace_47 ic_0 ?_
    obtain rfl := Option.some.inj h
    exact v_zret (pc := 48) hX hR (Or.inl rfl) dX11_arePlace_48
  · have h := if_f h h3
    refine v_iload_n (pc := 11) 2 hX dX11_arePlace_11 rfl ?_
    refine v_bipush (pc := 12) hX dX11_arePlace_12 bp_m50 ?_
    refine v_bipush (pc := 14) hX dX11_arePlace_14 bp_50 ?_
    obtain ⟨x5, h4, h⟩ := b1_e h
    refine v_callS (pc := 16) [.int w2, .int (-50), .int 50] (some (.int x5)) M hX cv_11_48 (c_X11_in M w2 (-50) 50 x5 h4) rfl rfl ⟨Nat.le_of_ble_eq_true rfl, Nat.le_of_ble_eq_true rfl⟩ (Nat.le_of_ble_eq_true rfl) dX11_arePlace_16 ?_
    show VV X 4 ad cs M 19 [(0, .ref (ad 95)), (1, .int w1), (2, .int w2), (3, .int w3)] [.int x5]
    refine v_if_eq (pc := 19) (tgt := 47) hX dX11_arePlace_19 (by decide) (fun h6 => ?_) (fun h6 => ?_)
    · have h := if_t h h6
      refine v_iconst (pc := 47) hX dX11_arePlace_47 ic_0 ?_
      obtain rfl := Option.some.inj h
      exact v_zret (pc := 48) hX hR (Or.inl rfl) dX11_arePlace_48
    · have h := if_f h h6
      refine v_iload_n (pc := 22) 3 hX dX11_arePlace_22 rfl ?_
      refine v_bipush (pc := 23) hX dX11_arePlace_23 bp_m50 ?_
      refine v_bipush (pc := 25) hX dX11_arePlace_25 bp_50 ?_
      obtain ⟨x8, h7, h⟩ := b1_e h
      refine v_callS (pc := 27) [.int w3, .int (-50), .int 50] (some (.int x8)) M hX cv_11_48 (c_X11_in M w3 (-50) 50 x8 h7) rfl rfl ⟨Nat.le_of_ble_eq_true rfl, Nat.le_of_ble_eq_true rfl⟩ (Nat.le_of_ble_eq_true rfl) dX11_arePlace_27 ?_
      show VV X 4 ad cs M 30 [(0, .ref (ad 95)), (1, .int w1), (2, .int w2), (3, .int w3)] [.int x8]
      refine v_if_eq (pc := 30) (tgt := 47) hX dX11_arePlace_30 (by decide) (fun h9 => ?_) (fun h9 => ?_)
      · have h := if_t h h9
        refine v_iconst (pc := 47) hX dX11_arePlace_47 ic_0 ?_
        obtain rfl := Option.some.inj h
        exact v_zret (pc := 48) hX hR (Or.inl rfl) dX11_arePlace_48
      · have h := if_f h h9
        refine v_aload_n (pc := 33) 0 hX dX11_arePlace_33 rfl ?_
        refine v_iload_n (pc := 34) 1 hX dX11_arePlace_34 rfl ?_
        refine v_iload_n (pc := 35) 2 hX dX11_arePlace_35 rfl ?_
        refine v_iload_n (pc := 36) 3 hX dX11_arePlace_36 rfl ?_
        obtain ⟨x11, h10, h⟩ := b1_e h
        refine v_callV (pc := 37) [.int w1, .int w2, .int w3] (some (.int x11)) M hX cv_11_52 (c_X11_areOfVariables (sub_cs hcs (Nat.le_of_ble_eq_true rfl) (Nat.le_of_ble_eq_true rfl)) M w1 w2 w3 x11 h10) (hcs 95 (Nat.le_of_ble_eq_true rfl) (Nat.le_of_ble_eq_true rfl)) sh_95 rfl rfl rfl ⟨Nat.le_of_ble_eq_true rfl, Nat.le_of_ble_eq_true rfl⟩ (Nat.le_of_ble_eq_true rfl) dX11_arePlace_37 ?_
        show VV X 4 ad cs M 40 [(0, .ref (ad 95)), (1, .int w1), (2, .int w2), (3, .int w3)] [.int x11]
        refine v_if_eq (pc := 40) (tgt := 47) hX dX11_arePlace_40 (by decide) (fun h12 => ?_) (fun h12 => ?_)
        · have h := if_t h h12
          refine v_iconst (pc := 47) hX dX11_arePlace_47 ic_0 ?_
          obtain rfl := Option.some.inj h
          exact v_zret (pc := 48) hX hR (Or.inl rfl) dX11_arePlace_48
        · have h := if_f h h12
          refine v_iconst (pc := 43) hX dX11_arePlace_43 ic_1 ?_
          refine v_goto (pc := 44) (tgt := 48) hX dX11_arePlace_44 (by decide) ?_
          obtain rfl := Option.some.inj h
          exact v_zret (pc := 48) hX hR (Or.inr rfl) dX11_arePlace_48
set_option maxHeartbeats 4000000 in
set_option maxRecDepth 100000 in
theorem c_X11_clearSearch {ad : Nat → Nat} {cs : List Nat} (hcs : ∀ k, 95 ≤ k → k < 97 → k ∈ cs) (M : Mm) (w1 : Int32) (q : Mm) (h : fX11_clearSearch M w1 = some q) : CT ad cs yX11_clearSearch cX11_clearSearch 3 none 0 0 [.ref (ad 95), .int w1] M none q := by
  refine CT.of RX11 (by decide +kernel) rfl (Nat.le_of_ble_eq_true rfl) (fun X hX hR => ?_)
  unfold fX11_clearSearch at h
  show VV X 3 ad cs M 0 [(0, .ref (ad 95)), (1, .int w1)] []
  refine v_aload_n (pc := 0) 0 hX dX11_clearSearch_0 rfl ?_
  refine v_getR (pc := 1) (t := 96) hX (hcs 95 (Nat.le_of_ble_eq_true rfl) (Nat.le_of_ble_eq_true rfl)) sh_95 fl_11_7 rfl dX11_clearSearch_1 ?_
  refine v_iconst (pc := 4) hX dX11_clearSearch_4 ic_3 ?_
  refine v_iload_n (pc := 5) 1 hX dX11_clearSearch_5 rfl ?_
  obtain ⟨M1, eM1, h⟩ := bd_e h
  refine v_iast (pc := 6) hX (hcs 96 (Nat.le_of_ble_eq_true rfl) (Nat.le_of_ble_eq_true rfl)) sh_96 (ib_3 (by decide)) ix_3 dX11_clearSearch_6 eM1 ?_
  refine v_aload_n (pc := 7) 0 hX dX11_clearSearch_7 rfl ?_
  refine v_getR (pc := 8) (t := 96) hX (hcs 95 (Nat.le_of_ble_eq_true rfl) (Nat.le_of_ble_eq_true rfl)) sh_95 fl_11_7 rfl dX11_clearSearch_8 ?_
  refine v_bipush (pc := 11) hX dX11_clearSearch_11 bp_6 ?_
  refine v_iconst (pc := 13) hX dX11_clearSearch_13 ic_0 ?_
  obtain ⟨M2, eM2, h⟩ := bd_e h
  refine v_iast (pc := 14) hX (hcs 96 (Nat.le_of_ble_eq_true rfl) (Nat.le_of_ble_eq_true rfl)) sh_96 (ib_6 (by decide)) ix_6 dX11_clearSearch_14 eM2 ?_
  refine v_aload_n (pc := 15) 0 hX dX11_clearSearch_15 rfl ?_
  refine v_getR (pc := 16) (t := 96) hX (hcs 95 (Nat.le_of_ble_eq_true rfl) (Nat.le_of_ble_eq_true rfl)) sh_95 fl_11_7 rfl dX11_clearSearch_16 ?_
  refine v_bipush (pc := 19) hX dX11_clearSearch_19 bp_7 ?_
  refine v_iconst (pc := 21) hX dX11_clearSearch_21 ic_0 ?_
  obtain ⟨M3, eM3, h⟩ := bd_e h
  refine v_iast (pc := 22) hX (hcs 96 (Nat.le_of_ble_eq_true rfl) (Nat.le_of_ble_eq_true rfl)) sh_96 (ib_7 (by decide)) ix_7 dX11_clearSearch_22 eM3 ?_
  refine v_aload_n (pc := 23) 0 hX dX11_clearSearch_23 rfl ?_
  refine v_getR (pc := 24) (t := 96) hX (hcs 95 (Nat.le_of_ble_eq_true rfl) (Nat.le_of_ble_eq_true rfl)) sh_95 fl_11_7 rfl dX11_clearSearch_24 ?_
  refine v_bipush (pc := 27) hX dX11_clearSearch_27 bp_8 ?_
  refine v_iconst (pc := 29) hX dX11_clearSearch_29 ic_0 ?_
  obtain ⟨M4, eM4, h⟩ := bd_e h
  refine v_iast (pc := 30) hX (hcs 96 (Nat.le_of_ble_eq_true rfl) (Nat.le_of_ble_eq_true rfl)) sh_96 (ib_8 (by decide)) ix_8 dX11_clearSearch_30 eM4 ?_
  refine v_aload_n (pc := 31) 0 hX dX11_clearSearch_31 rfl ?_
  refine v_getR (pc := 32) (t := 96) hX (hcs 95 (Nat.le_of_ble_eq_true rfl) (Nat.le_of_ble_eq_true rfl)) sh_95 fl_11_7 rfl dX11_clearSearch_32 ?_
  refine v_bipush (pc := 35) hX dX11_clearSearch_35 bp_9 ?_
  refine v_iconst (pc := 37) hX dX11_clearSearch_37 ic_m1 ?_
  obtain ⟨M5, eM5, h⟩ := bd_e h
  refine v_iast (pc := 38) hX (hcs 96 (Nat.le_of_ble_eq_true rfl) (Nat.le_of_ble_eq_true rfl)) sh_96 (ib_9 (by decide)) ix_9 dX11_clearSearch_38 eM5 ?_
  refine v_aload_n (pc := 39) 0 hX dX11_clearSearch_39 rfl ?_
  refine v_getR (pc := 40) (t := 96) hX (hcs 95 (Nat.le_of_ble_eq_true rfl) (Nat.le_of_ble_eq_true rfl)) sh_95 fl_11_7 rfl dX11_clearSearch_40 ?_
  refine v_bipush (pc := 43) hX dX11_clearSearch_43 bp_10 ?_
  refine v_iconst (pc := 45) hX dX11_clearSearch_45 ic_0 ?_
  obtain ⟨M6, eM6, h⟩ := bd_e h
  refine v_iast (pc := 46) hX (hcs 96 (Nat.le_of_ble_eq_true rfl) (Nat.le_of_ble_eq_true rfl)) sh_96 (ib_10 (by decide)) ix_10 dX11_clearSearch_46 eM6 ?_
  refine v_aload_n (pc := 47) 0 hX dX11_clearSearch_47 rfl ?_
  refine v_getR (pc := 48) (t := 96) hX (hcs 95 (Nat.le_of_ble_eq_true rfl) (Nat.le_of_ble_eq_true rfl)) sh_95 fl_11_7 rfl dX11_clearSearch_48 ?_
  refine v_bipush (pc := 51) hX dX11_clearSearch_51 bp_11 ?_
  refine v_iconst (pc := 53) hX dX11_clearSearch_53 ic_0 ?_
  obtain ⟨M7, eM7, h⟩ := bd_e h
  refine v_iast (pc := 54) hX (hcs 96 (Nat.le_of_ble_eq_true rfl) (Nat.le_of_ble_eq_true rfl)) sh_96 (ib_11 (by decide)) ix_11 dX11_clearSearch_54 eM7 ?_
  refine v_iconst (pc := 55) hX dX11_clearSearch_55 ic_0 ?_
  refine v_istore_n (pc := 56) [(2, .int 0), (0, .ref (ad 95)), (1, .int w1)] hX dX11_clearSearch_56 (by decide) rfl ?_
  have L14 := v_itr (fX11_clearSearch_L57) (fun z => VV X 3 ad cs z.2 57 [(0, .ref (ad 95)), (2, .int z.1)] []) (fun z => VV X 3 ad cs z 83 [] []) (by
    rintro ⟨x8, M9⟩ q h hK
    unfold fX11_clearSearch_L57 at h
    have h := u2_b h
    show VV X 3 ad cs M9 57 [(0, .ref (ad 95)), (2, .int x8)] []
    refine v_iload_n (pc := 57) 1 hX dX11_clearSearch_57 rfl ?_
    refine v_bipush (pc := 58) hX dX11_clearSearch_58 bp_8 ?_
    refine v_icmp_ge (pc := 60) (tgt := 83) hX dX11_clearSearch_60 (by decide) (fun h10 => ?_) (fun h10 => ?_)
    · have h := if_t h h10
      obtain rfl := Option.some.inj h
      exact v_sub [] rfl hK
    · have h := if_f h h10
      refine v_aload_n (pc := 63) 0 hX dX11_clearSearch_63 rfl ?_
      refine v_getR (pc := 64) (t := 96) hX (hcs 95 (Nat.le_of_ble_eq_true rfl) (Nat.le_of_ble_eq_true rfl)) sh_95 fl_11_7 rfl dX11_clearSearch_64 ?_
      refine v_bipush (pc := 67) hX dX11_clearSearch_67 bp_61 ?_
      refine v_iconst (pc := 69) hX dX11_clearSearch_69 ic_4 ?_
      refine v_iload_n (pc := 70) 1 hX dX11_clearSearch_70 rfl ?_
      refine v_imul (pc := 71) hX dX11_clearSearch_71 ?_
      refine v_iadd (pc := 72) hX dX11_clearSearch_72 ?_
      refine v_iconst (pc := 73) hX dX11_clearSearch_73 ic_3 ?_
      refine v_iadd (pc := 74) hX dX11_clearSearch_74 ?_
      refine v_iconst (pc := 75) hX dX11_clearSearch_75 ic_0 ?_
      obtain ⟨g11, h⟩ := gd_e h
      obtain ⟨M12, eM12, h⟩ := bd_e h
      refine v_iast (pc := 76) hX (hcs 96 (Nat.le_of_ble_eq_true rfl) (Nat.le_of_ble_eq_true rfl)) sh_96 g11 rfl dX11_clearSearch_76 eM12 ?_
      obtain ⟨x13, ex13, h⟩ := bd_e h
      refine v_iinc (v := x13) (pc := 77) 1 [(2, .int x13), (0, .ref (ad 95))] hX dX11_clearSearch_77 rfl (ex13.trans (by rw [ic_1])) (by decide) rfl ?_
      refine v_goto (pc := 80) (tgt := 57) hX dX11_clearSearch_80 (by decide) ?_
      obtain rfl := Option.some.inj h
      exact v_sub [1, 0] rfl hK
  )
  obtain ⟨M15, h16, h⟩ := b1_e h
  refine v_sub [1, 0] rfl ?_
  refine L14 1000 _ _ h16 ?_
  show VV X 3 ad cs M15 83 [] []
  obtain rfl := Option.some.inj h
  exact v_vret (pc := 83) hX hR dX11_clearSearch_83
set_option maxHeartbeats 4000000 in
set_option maxRecDepth 100000 in
theorem c_X11_putPlace {ad : Nat → Nat} {cs : List Nat} (hcs : ∀ k, 95 ≤ k → k < 97 → k ∈ cs) (M : Mm) (w1 : Int32) (w2 : Int32) (w3 : Int32) (q : Mm) (h : fX11_putPlace M w1 w2 w3 = some q) : CT ad cs yX11_putPlace cX11_putPlace 4 none 0 0 [.ref (ad 95), .int w1, .int w2, .int w3] M none q := by
  refine CT.of RX11 (by decide +kernel) rfl (Nat.le_of_ble_eq_true rfl) (fun X hX hR => ?_)
  unfold fX11_putPlace at h
  show VV X 4 ad cs M 0 [(0, .ref (ad 95)), (1, .int w1), (2, .int w2), (3, .int w3)] []
  refine v_aload_n (pc := 0) 0 hX dX11_putPlace_0 rfl ?_
  refine v_getR (pc := 1) (t := 96) hX (hcs 95 (Nat.le_of_ble_eq_true rfl) (Nat.le_of_ble_eq_true rfl)) sh_95 fl_11_7 rfl dX11_putPlace_1 ?_
  refine v_bipush (pc := 4) hX dX11_putPlace_4 bp_18 ?_
  refine v_iload_n (pc := 6) 1 hX dX11_putPlace_6 rfl ?_
  obtain ⟨M1, eM1, h⟩ := bd_e h
  refine v_iast (pc := 7) hX (hcs 96 (Nat.le_of_ble_eq_true rfl) (Nat.le_of_ble_eq_true rfl)) sh_96 (ib_18 (by decide)) ix_18 dX11_putPlace_7 eM1 ?_
  refine v_aload_n (pc := 8) 0 hX dX11_putPlace_8 rfl ?_
  refine v_getR (pc := 9) (t := 96) hX (hcs 95 (Nat.le_of_ble_eq_true rfl) (Nat.le_of_ble_eq_true rfl)) sh_95 fl_11_7 rfl dX11_putPlace_9 ?_
  refine v_bipush (pc := 12) hX dX11_putPlace_12 bp_19 ?_
  refine v_iload_n (pc := 14) 2 hX dX11_putPlace_14 rfl ?_
  obtain ⟨M2, eM2, h⟩ := bd_e h
  refine v_iast (pc := 15) hX (hcs 96 (Nat.le_of_ble_eq_true rfl) (Nat.le_of_ble_eq_true rfl)) sh_96 (ib_19 (by decide)) ix_19 dX11_putPlace_15 eM2 ?_
  refine v_aload_n (pc := 16) 0 hX dX11_putPlace_16 rfl ?_
  refine v_getR (pc := 17) (t := 96) hX (hcs 95 (Nat.le_of_ble_eq_true rfl) (Nat.le_of_ble_eq_true rfl)) sh_95 fl_11_7 rfl dX11_putPlace_17 ?_
  refine v_bipush (pc := 20) hX dX11_putPlace_20 bp_20 ?_
  refine v_iload_n (pc := 22) 3 hX dX11_putPlace_22 rfl ?_
  obtain ⟨M3, eM3, h⟩ := bd_e h
  refine v_iast (pc := 23) hX (hcs 96 (Nat.le_of_ble_eq_true rfl) (Nat.le_of_ble_eq_true rfl)) sh_96 (ib_20 (by decide)) ix_20 dX11_putPlace_23 eM3 ?_
  obtain rfl := Option.some.inj h
  exact v_vret (pc := 24) hX hR dX11_putPlace_24
set_option maxHeartbeats 4000000 in
set_option maxRecDepth 100000 in
theorem c_X11_start {ad : Nat → Nat} {cs : List Nat} (hcs : ∀ k, 95 ≤ k → k < 98 → k ∈ cs) (M : Mm) (w1 : Int32) (w2 : Int32) (w3 : Int32) (w4 : Int32) (q : Int32 × Mm) (h : fX11_start M w1 w2 w3 w4 = some q) : CT ad cs yX11_start cX11_start 5 (some .int) 3 65 [.ref (ad 95), .int w1, .int w2, .int w3, .int w4] M (some (.int q.1)) q.2 := by
  refine CT.of RX11 (by decide +kernel) rfl (Nat.le_of_ble_eq_true rfl) (fun X hX hR => ?_)
  unfold fX11_start at h
  show VV X 5 ad cs M 0 [(0, .ref (ad 95)), (1, .int w1), (2, .int w2), (3, .int w3), (4, .int w4)] []
  refine v_aload_n (pc := 0) 0 hX dX11_start_0 rfl ?_
  refine v_iload_n (pc := 1) 1 hX dX11_start_1 rfl ?_
  refine v_iload_n (pc := 2) 2 hX dX11_start_2 rfl ?_
  refine v_iload_n (pc := 3) 3 hX dX11_start_3 rfl ?_
  obtain ⟨x2, h1, h⟩ := b1_e h
  refine v_callV (pc := 4) [.int w1, .int w2, .int w3] (some (.int x2)) M hX cv_11_59 (c_X11_arePlace (sub_cs hcs (Nat.le_of_ble_eq_true rfl) (Nat.le_of_ble_eq_true rfl)) M w1 w2 w3 x2 h1) (hcs 95 (Nat.le_of_ble_eq_true rfl) (Nat.le_of_ble_eq_true rfl)) sh_95 rfl rfl rfl ⟨Nat.le_of_ble_eq_true rfl, Nat.le_of_ble_eq_true rfl⟩ (Nat.le_of_ble_eq_true rfl) dX11_start_4 ?_
  show VV X 5 ad cs M 7 [(0, .ref (ad 95)), (1, .int w1), (2, .int w2), (3, .int w3), (4, .int w4)] [.int x2]
  refine v_if_eq (pc := 7) (tgt := 20) hX dX11_start_7 (by decide) (fun h3 => ?_) (fun h3 => ?_)
  · have h := if_t h h3
    refine v_ldc (pc := 20) hX kc_11_70 dX11_start_20 ?_
    obtain rfl := Option.some.inj h
    exact v_iret (pc := 22) hX hR dX11_start_22
  · have h := if_f h h3
    refine v_iload (pc := 10) 4 hX dX11_start_10 rfl ?_
    refine v_iconst (pc := 12) hX dX11_start_12 ic_0 ?_
    refine v_iconst (pc := 13) hX dX11_start_13 ic_4 ?_
    obtain ⟨x5, h4, h⟩ := b1_e h
    refine v_callS (pc := 14) [.int w4, .int 0, .int 4] (some (.int x5)) M hX cv_11_48 (c_X11_in M w4 0 4 x5 h4) rfl rfl ⟨Nat.le_of_ble_eq_true rfl, Nat.le_of_ble_eq_true rfl⟩ (Nat.le_of_ble_eq_true rfl) dX11_start_14 ?_
    show VV X 5 ad cs M 17 [(0, .ref (ad 95)), (1, .int w1), (2, .int w2), (3, .int w3), (4, .int w4)] [.int x5]
    refine v_if_ne (pc := 17) (tgt := 23) hX dX11_start_17 (by decide) (fun h6 => ?_) (fun h6 => ?_)
    · have h := if_f h h6
      refine v_aload_n (pc := 23) 0 hX dX11_start_23 rfl ?_
      obtain ⟨M8, h7, h⟩ := b1_e h
      refine v_callV (pc := 24) [] none M8 hX cv_11_45 (c_X11_record (sub_cs hcs (Nat.le_of_ble_eq_true rfl) (Nat.le_of_ble_eq_true rfl)) M M8 h7) (hcs 95 (Nat.le_of_ble_eq_true rfl) (Nat.le_of_ble_eq_true rfl)) sh_95 rfl rfl rfl ⟨Nat.le_of_ble_eq_true rfl, Nat.le_of_ble_eq_true rfl⟩ (Nat.le_of_ble_eq_true rfl) dX11_start_24 ?_
      show VV X 5 ad cs M8 27 [(0, .ref (ad 95)), (1, .int w1), (2, .int w2), (3, .int w3), (4, .int w4)] []
      refine v_aload_n (pc := 27) 0 hX dX11_start_27 rfl ?_
      refine v_iload (pc := 28) 4 hX dX11_start_28 rfl ?_
      obtain ⟨M10, h9, h⟩ := b1_e h
      refine v_callV (pc := 30) [.int w4] none M10 hX cv_11_106 (c_X11_clearSearch (sub_cs hcs (Nat.le_of_ble_eq_true rfl) (Nat.le_of_ble_eq_true rfl)) M8 w4 M10 h9) (hcs 95 (Nat.le_of_ble_eq_true rfl) (Nat.le_of_ble_eq_true rfl)) sh_95 rfl rfl rfl ⟨Nat.le_of_ble_eq_true rfl, Nat.le_of_ble_eq_true rfl⟩ (Nat.le_of_ble_eq_true rfl) dX11_start_30 ?_
      show VV X 5 ad cs M10 33 [(0, .ref (ad 95)), (1, .int w1), (2, .int w2), (3, .int w3), (4, .int w4)] []
      refine v_aload_n (pc := 33) 0 hX dX11_start_33 rfl ?_
      refine v_iload_n (pc := 34) 1 hX dX11_start_34 rfl ?_
      refine v_iload_n (pc := 35) 2 hX dX11_start_35 rfl ?_
      refine v_iload_n (pc := 36) 3 hX dX11_start_36 rfl ?_
      obtain ⟨M12, h11, h⟩ := b1_e h
      refine v_callV (pc := 37) [.int w1, .int w2, .int w3] none M12 hX cv_11_109 (c_X11_putPlace (sub_cs hcs (Nat.le_of_ble_eq_true rfl) (Nat.le_of_ble_eq_true rfl)) M10 w1 w2 w3 M12 h11) (hcs 95 (Nat.le_of_ble_eq_true rfl) (Nat.le_of_ble_eq_true rfl)) sh_95 rfl rfl rfl ⟨Nat.le_of_ble_eq_true rfl, Nat.le_of_ble_eq_true rfl⟩ (Nat.le_of_ble_eq_true rfl) dX11_start_37 ?_
      show VV X 5 ad cs M12 40 [(0, .ref (ad 95)), (1, .int w1), (2, .int w2), (3, .int w3), (4, .int w4)] []
      refine v_aload_n (pc := 40) 0 hX dX11_start_40 rfl ?_
      obtain ⟨x14, h13, h⟩ := b1_e h
      refine v_callV (pc := 41) [] (some (.int x14)) M12 hX cv_11_91 (c_X11_isHereAllowed (sub_cs hcs (Nat.le_of_ble_eq_true rfl) (Nat.le_of_ble_eq_true rfl)) M12 x14 h13) (hcs 95 (Nat.le_of_ble_eq_true rfl) (Nat.le_of_ble_eq_true rfl)) sh_95 rfl rfl rfl ⟨Nat.le_of_ble_eq_true rfl, Nat.le_of_ble_eq_true rfl⟩ (Nat.le_of_ble_eq_true rfl) dX11_start_41 ?_
      show VV X 5 ad cs M12 44 [(0, .ref (ad 95)), (1, .int w1), (2, .int w2), (3, .int w3), (4, .int w4)] [.int x14]
      refine v_if_eq (pc := 44) (tgt := 51) hX dX11_start_44 (by decide) (fun h15 => ?_) (fun h15 => ?_)
      · have h := if_t h h15
        refine v_iconst (pc := 51) hX dX11_start_51 ic_0 ?_
        obtain rfl := Option.some.inj h
        exact v_iret (pc := 52) hX hR dX11_start_52
      · have h := if_f h h15
        refine v_iconst (pc := 47) hX dX11_start_47 ic_1 ?_
        refine v_goto (pc := 48) (tgt := 52) hX dX11_start_48 (by decide) ?_
        obtain rfl := Option.some.inj h
        exact v_iret (pc := 52) hX hR dX11_start_52
    · have h := if_t h h6
      refine v_ldc (pc := 20) hX kc_11_70 dX11_start_20 ?_
      obtain rfl := Option.some.inj h
      exact v_iret (pc := 22) hX hR dX11_start_22
