set_option maxHeartbeats 4000000 in
set_option maxRecDepth 100000 in
theorem c_X11_readLetters {ad : Nat → Nat} {cs : List Nat} (hcs : ∀ k, 95 ≤ k → k < 103 → k ∈ cs) (M : Mm) (w1 : Int32) (q : Mm) (h : fX11_readLetters M w1 = some q) : CT ad cs yX11_readLetters cX11_readLetters 4 none 2 43 [.ref (ad 95), .int w1] M none q := by
  refine CT.of RX11 (by decide +kernel) rfl (Nat.le_of_ble_eq_true rfl) (fun X hX hR => ?_)
  unfold fX11_readLetters at h
  show VV X 4 ad cs M 0 [(0, .ref (ad 95)), (1, .int w1)] []
  refine v_iconst (pc := 0) hX dX11_readLetters_0 ic_0 ?_
  refine v_istore_n (pc := 1) [(2, .int 0), (0, .ref (ad 95)), (1, .int w1)] hX dX11_readLetters_1 (by decide) rfl ?_
  have L28 := v_itr (fX11_readLetters_L2 w1) (fun z => VV X 4 ad cs z.2 2 [(0, .ref (ad 95)), (1, .int w1), (2, .int z.1)] []) (fun z => VV X 4 ad cs z 100 [] []) (by
    rintro ⟨x1, M2⟩ q h hK
    unfold fX11_readLetters_L2 at h
    have h := u2_b h
    show VV X 4 ad cs M2 2 [(0, .ref (ad 95)), (1, .int w1), (2, .int x1)] []
    refine v_aload_n (pc := 2) 0 hX dX11_readLetters_2 rfl ?_
    refine v_getI (pc := 3) hX (hcs 95 (Nat.le_of_ble_eq_true rfl) (Nat.le_of_ble_eq_true rfl)) sh_95 fl_11_170 rfl dX11_readLetters_3 ?_
    refine v_if_ne (pc := 6) (tgt := 100) hX dX11_readLetters_6 (by decide) (fun h3 => ?_) (fun h3 => ?_)
    · have h := if_f h h3
      obtain rfl := Option.some.inj h
      exact v_sub [] rfl hK
    · have h := if_t h h3
      refine v_aload_n (pc := 9) 0 hX dX11_readLetters_9 rfl ?_
      refine v_aload_n (pc := 10) 0 hX dX11_readLetters_10 rfl ?_
      refine v_getI (pc := 11) hX (hcs 95 (Nat.le_of_ble_eq_true rfl) (Nat.le_of_ble_eq_true rfl)) sh_95 fl_11_173 rfl dX11_readLetters_11 ?_
      obtain ⟨x5, h4, h⟩ := b1_e h
      refine v_callV (pc := 14) [.int (M2.1 95 12)] (some (.int x5)) M2 hX cv_11_179 (c_X11_letter (sub_cs hcs (Nat.le_of_ble_eq_true rfl) (Nat.le_of_ble_eq_true rfl)) M2 (M2.1 95 12) x5 h4) (hcs 95 (Nat.le_of_ble_eq_true rfl) (Nat.le_of_ble_eq_true rfl)) sh_95 rfl rfl rfl ⟨Nat.le_of_ble_eq_true rfl, Nat.le_of_ble_eq_true rfl⟩ (Nat.le_of_ble_eq_true rfl) dX11_readLetters_14 ?_
      show VV X 4 ad cs M2 17 [(0, .ref (ad 95)), (1, .int w1), (2, .int x1)] [.int x5]
      refine v_bipush (pc := 17) hX dX11_readLetters_17 bp_120 ?_
      refine v_bipush (pc := 19) hX dX11_readLetters_19 bp_122 ?_
      obtain ⟨x7, h6, h⟩ := b1_e h
      refine v_callS (pc := 21) [.int x5, .int 120, .int 122] (some (.int x7)) M2 hX cv_11_48 (c_X11_in M2 x5 120 122 x7 h6) rfl rfl ⟨Nat.le_of_ble_eq_true rfl, Nat.le_of_ble_eq_true rfl⟩ (Nat.le_of_ble_eq_true rfl) dX11_readLetters_21 ?_
      show VV X 4 ad cs M2 24 [(0, .ref (ad 95)), (1, .int w1), (2, .int x1)] [.int x7]
      refine v_if_eq (pc := 24) (tgt := 100) hX dX11_readLetters_24 (by decide) (fun h8 => ?_) (fun h8 => ?_)
      · have h := if_t h h8
        obtain rfl := Option.some.inj h
        exact v_sub [] rfl hK
      · have h := if_f h h8
        refine v_aload_n (pc := 27) 0 hX dX11_readLetters_27 rfl ?_
        refine v_aload_n (pc := 28) 0 hX dX11_readLetters_28 rfl ?_
        refine v_getI (pc := 29) hX (hcs 95 (Nat.le_of_ble_eq_true rfl) (Nat.le_of_ble_eq_true rfl)) sh_95 fl_11_173 rfl dX11_readLetters_29 ?_
        obtain ⟨x10, h9, h⟩ := b1_e h
        refine v_callV (pc := 32) [.int (M2.1 95 12)] (some (.int x10)) M2 hX cv_11_179 (c_X11_letter (sub_cs hcs (Nat.le_of_ble_eq_true rfl) (Nat.le_of_ble_eq_true rfl)) M2 (M2.1 95 12) x10 h9) (hcs 95 (Nat.le_of_ble_eq_true rfl) (Nat.le_of_ble_eq_true rfl)) sh_95 rfl rfl rfl ⟨Nat.le_of_ble_eq_true rfl, Nat.le_of_ble_eq_true rfl⟩ (Nat.le_of_ble_eq_true rfl) dX11_readLetters_32 ?_
        show VV X 4 ad cs M2 35 [(0, .ref (ad 95)), (1, .int w1), (2, .int x1)] [.int x10]
        refine v_bipush (pc := 35) hX dX11_readLetters_35 bp_120 ?_
        refine v_isub (pc := 37) hX dX11_readLetters_37 ?_
        obtain ⟨x11, ex11, h⟩ := bd_e h
        refine v_top ex11 ?_
        refine v_istore_n (pc := 38) [(3, .int x11), (0, .ref (ad 95)), (1, .int w1), (2, .int x1)] hX dX11_readLetters_38 (by decide) rfl ?_
        refine v_aload_n (pc := 39) 1 hX dX11_readLetters_39 rfl ?_
        refine v_iload_n (pc := 40) 0 hX dX11_readLetters_40 rfl ?_
        obtain ⟨x13, h12, h⟩ := b1_e h
        refine v_callV (pc := 41) [.int x11] (some (.int x13)) M2 hX cv_11_87 (c_X11_isVariable (sub_cs hcs (Nat.le_of_ble_eq_true rfl) (Nat.le_of_ble_eq_true rfl)) M2 x11 x13 h12) (hcs 95 (Nat.le_of_ble_eq_true rfl) (Nat.le_of_ble_eq_true rfl)) sh_95 rfl rfl rfl ⟨Nat.le_of_ble_eq_true rfl, Nat.le_of_ble_eq_true rfl⟩ (Nat.le_of_ble_eq_true rfl) dX11_readLetters_41 ?_
        show VV X 4 ad cs M2 44 [(3, .int x11), (0, .ref (ad 95)), (1, .int w1), (2, .int x1)] [.int x13]
        obtain ⟨k14, ek14, h⟩ := bd_e h
        have K15 : ∀ (x16 : Int32) (M17 : Mm), k14 x16 M17 = some q → VV X 4 ad cs M17 97 [(0, .ref (ad 95)), (1, .int w1), (2, .int x16)] [] := by
          intro x16 M17 h
          subst ek14
          refine v_goto (pc := 97) (tgt := 2) hX dX11_readLetters_97 (by decide) ?_
          obtain rfl := Option.some.inj h
          exact v_sub [0, 1, 2] rfl hK
        refine v_if_ne (pc := 44) (tgt := 55) hX dX11_readLetters_44 (by decide) (fun h18 => ?_) (fun h18 => ?_)
        · have h := if_f h h18
          refine v_iload_n (pc := 55) 3 hX dX11_readLetters_55 rfl ?_
          refine v_iconst (pc := 56) hX dX11_readLetters_56 ic_4 ?_
          refine v_icmp_ne (pc := 57) (tgt := 68) hX dX11_readLetters_57 (by decide) (fun h19 => ?_) (fun h19 => ?_)
          · have h := if_f h h19
            refine v_aload_n (pc := 68) 1 hX dX11_readLetters_68 rfl ?_
            refine v_getR (pc := 69) (t := 102) hX (hcs 95 (Nat.le_of_ble_eq_true rfl) (Nat.le_of_ble_eq_true rfl)) sh_95 fl_11_29 rfl dX11_readLetters_69 ?_
            refine v_iconst (pc := 72) hX dX11_readLetters_72 ic_4 ?_
            refine v_iload_n (pc := 73) 2 hX dX11_readLetters_73 rfl ?_
            refine v_imul (pc := 74) hX dX11_readLetters_74 ?_
            refine v_iconst (pc := 75) hX dX11_readLetters_75 ic_1 ?_
            refine v_iadd (pc := 76) hX dX11_readLetters_76 ?_
            refine v_iload_n (pc := 77) 0 hX dX11_readLetters_77 rfl ?_
            refine v_iadd (pc := 78) hX dX11_readLetters_78 ?_
            refine v_dup2 (pc := 79) hX dX11_readLetters_79 rfl rfl ?_
            obtain ⟨g20, h⟩ := gd_e h
            refine v_iald (pc := 80) hX (hcs 102 (Nat.le_of_ble_eq_true rfl) (Nat.le_of_ble_eq_true rfl)) sh_102 g20 rfl dX11_readLetters_80 ?_
            refine v_iconst (pc := 81) hX dX11_readLetters_81 ic_1 ?_
            refine v_iadd (pc := 82) hX dX11_readLetters_82 ?_
            obtain ⟨M21, eM21, h⟩ := bd_e h
            refine v_iast (pc := 83) hX (hcs 102 (Nat.le_of_ble_eq_true rfl) (Nat.le_of_ble_eq_true rfl)) sh_102 g20 rfl dX11_readLetters_83 eM21 ?_
            obtain ⟨x22, ex22, h⟩ := bd_e h
            refine v_iinc (v := x22) (pc := 84) 3 [(2, .int x22), (3, .int x11), (0, .ref (ad 95)), (1, .int w1)] hX dX11_readLetters_84 rfl (ex22.trans (by rw [ic_1])) (by decide) rfl ?_
            refine v_aload_n (pc := 87) 2 hX dX11_readLetters_87 rfl ?_
            refine v_dup (pc := 88) hX dX11_readLetters_88 rfl ?_
            refine v_getI (pc := 89) hX (hcs 95 (Nat.le_of_ble_eq_true rfl) (Nat.le_of_ble_eq_true rfl)) sh_95 fl_11_173 rfl dX11_readLetters_89 ?_
            refine v_iconst (pc := 92) hX dX11_readLetters_92 ic_1 ?_
            refine v_iadd (pc := 93) hX dX11_readLetters_93 ?_
            obtain ⟨M23, eM23, h⟩ := bd_e h
            refine v_putI (pc := 94) hX (hcs 95 (Nat.le_of_ble_eq_true rfl) (Nat.le_of_ble_eq_true rfl)) sh_95 pl_11_173 rfl dX11_readLetters_94 eM23 ?_
            exact v_sub [2, 3, 0] rfl (K15 x22 M23 h)
          · have h := if_t h h19
            refine v_aload_n (pc := 60) 1 hX dX11_readLetters_60 rfl ?_
            refine v_iconst (pc := 61) hX dX11_readLetters_61 ic_3 ?_
            obtain ⟨M25, h24, h⟩ := b1_e h
            refine v_callV (pc := 62) [.int 3] none M25 hX cv_11_185 (c_X11_fail (sub_cs hcs (Nat.le_of_ble_eq_true rfl) (Nat.le_of_ble_eq_true rfl)) M2 3 M25 h24) (hcs 95 (Nat.le_of_ble_eq_true rfl) (Nat.le_of_ble_eq_true rfl)) sh_95 rfl rfl rfl ⟨Nat.le_of_ble_eq_true rfl, Nat.le_of_ble_eq_true rfl⟩ (Nat.le_of_ble_eq_true rfl) dX11_readLetters_62 ?_
            show VV X 4 ad cs M25 65 [(3, .int x11), (0, .ref (ad 95)), (1, .int w1), (2, .int x1)] []
            refine v_goto (pc := 65) (tgt := 97) hX dX11_readLetters_65 (by decide) ?_
            exact v_sub [1, 2, 3] rfl (K15 x1 M25 h)
        · have h := if_t h h18
          refine v_aload_n (pc := 47) 1 hX dX11_readLetters_47 rfl ?_
          refine v_iconst (pc := 48) hX dX11_readLetters_48 ic_2 ?_
          obtain ⟨M27, h26, h⟩ := b1_e h
          refine v_callV (pc := 49) [.int 2] none M27 hX cv_11_185 (c_X11_fail (sub_cs hcs (Nat.le_of_ble_eq_true rfl) (Nat.le_of_ble_eq_true rfl)) M2 2 M27 h26) (hcs 95 (Nat.le_of_ble_eq_true rfl) (Nat.le_of_ble_eq_true rfl)) sh_95 rfl rfl rfl ⟨Nat.le_of_ble_eq_true rfl, Nat.le_of_ble_eq_true rfl⟩ (Nat.le_of_ble_eq_true rfl) dX11_readLetters_49 ?_
          show VV X 4 ad cs M27 52 [(3, .int x11), (0, .ref (ad 95)), (1, .int w1), (2, .int x1)] []
          refine v_goto (pc := 52) (tgt := 97) hX dX11_readLetters_52 (by decide) ?_
          exact v_sub [1, 2, 3] rfl (K15 x1 M27 h)
  )
  obtain ⟨M29, h30, h⟩ := b1_e h
  refine v_sub [1, 2, 0] rfl ?_
  refine L28 1000 _ _ h30 ?_
  show VV X 4 ad cs M29 100 [] []
  obtain rfl := Option.some.inj h
  exact v_vret (pc := 100) hX hR dX11_readLetters_100
set_option maxHeartbeats 4000000 in
set_option maxRecDepth 100000 in
theorem c_X11_readTerm {ad : Nat → Nat} {cs : List Nat} (hcs : ∀ k, 95 ≤ k → k < 103 → k ∈ cs) (M : Mm) (w1 : Int32) (q : Mm) (h : fX11_readTerm M w1 = some q) : CT ad cs yX11_readTerm cX11_readTerm 4 none 3 66 [.ref (ad 95), .int w1] M none q := by
  refine CT.of RX11 (by decide +kernel) rfl (Nat.le_of_ble_eq_true rfl) (fun X hX hR => ?_)
  unfold fX11_readTerm at h
  show VV X 4 ad cs M 0 [(0, .ref (ad 95)), (1, .int w1)] []
  refine v_aload_n (pc := 0) 0 hX dX11_readTerm_0 rfl ?_
  refine v_getI (pc := 1) hX (hcs 95 (Nat.le_of_ble_eq_true rfl) (Nat.le_of_ble_eq_true rfl)) sh_95 fl_11_188 rfl dX11_readTerm_1 ?_
  obtain ⟨x1, ex1, h⟩ := bd_e h
  refine v_top ex1 ?_
  refine v_istore_n (pc := 4) [(2, .int x1), (0, .ref (ad 95)), (1, .int w1)] hX dX11_readTerm_4 (by decide) rfl ?_
  refine v_iconst (pc := 5) hX dX11_readTerm_5 ic_1 ?_
  refine v_istore_n (pc := 6) [(3, .int 1), (2, .int x1), (0, .ref (ad 95)), (1, .int w1)] hX dX11_readTerm_6 (by decide) rfl ?_
  have L8 := v_itr (fX11_readTerm_L7 x1) (fun z => VV X 4 ad cs z.2 7 [(0, .ref (ad 95)), (1, .int w1), (2, .int x1), (3, .int z.1)] []) (fun z => VV X 4 ad cs z 29 [(0, .ref (ad 95)), (1, .int w1), (2, .int x1)] []) (by
    rintro ⟨x2, M3⟩ q h hK
    unfold fX11_readTerm_L7 at h
    have h := u2_b h
    show VV X 4 ad cs M3 7 [(0, .ref (ad 95)), (1, .int w1), (2, .int x1), (3, .int x2)] []
    refine v_iload_n (pc := 7) 3 hX dX11_readTerm_7 rfl ?_
    refine v_iconst (pc := 8) hX dX11_readTerm_8 ic_4 ?_
    refine v_icmp_ge (pc := 9) (tgt := 29) hX dX11_readTerm_9 (by decide) (fun h4 => ?_) (fun h4 => ?_)
    · have h := if_t h h4
      obtain rfl := Option.some.inj h
      exact v_sub [0, 1, 2] rfl hK
    · have h := if_f h h4
      refine v_aload_n (pc := 12) 0 hX dX11_readTerm_12 rfl ?_
      refine v_getR (pc := 13) (t := 102) hX (hcs 95 (Nat.le_of_ble_eq_true rfl) (Nat.le_of_ble_eq_true rfl)) sh_95 fl_11_29 rfl dX11_readTerm_13 ?_
      refine v_iconst (pc := 16) hX dX11_readTerm_16 ic_4 ?_
      refine v_iload_n (pc := 17) 2 hX dX11_readTerm_17 rfl ?_
      refine v_imul (pc := 18) hX dX11_readTerm_18 ?_
      refine v_iload_n (pc := 19) 3 hX dX11_readTerm_19 rfl ?_
      refine v_iadd (pc := 20) hX dX11_readTerm_20 ?_
      refine v_iconst (pc := 21) hX dX11_readTerm_21 ic_0 ?_
      obtain ⟨g5, h⟩ := gd_e h
      obtain ⟨M6, eM6, h⟩ := bd_e h
      refine v_iast (pc := 22) hX (hcs 102 (Nat.le_of_ble_eq_true rfl) (Nat.le_of_ble_eq_true rfl)) sh_102 g5 rfl dX11_readTerm_22 eM6 ?_
      obtain ⟨x7, ex7, h⟩ := bd_e h
      refine v_iinc (v := x7) (pc := 23) 3 [(3, .int x7), (0, .ref (ad 95)), (1, .int w1), (2, .int x1)] hX dX11_readTerm_23 rfl (ex7.trans (by rw [ic_1])) (by decide) rfl ?_
      refine v_goto (pc := 26) (tgt := 7) hX dX11_readTerm_26 (by decide) ?_
      obtain rfl := Option.some.inj h
      exact v_sub [1, 2, 3, 0] rfl hK
  )
  obtain ⟨M9, h35, h⟩ := b1_e h
  refine v_sub [2, 3, 1, 0] rfl ?_
  refine L8 1000 _ _ h35 ?_
  show VV X 4 ad cs M9 29 [(0, .ref (ad 95)), (1, .int w1), (2, .int x1)] []
  refine v_aload_n (pc := 29) 0 hX dX11_readTerm_29 rfl ?_
  refine v_aload_n (pc := 30) 0 hX dX11_readTerm_30 rfl ?_
  refine v_getI (pc := 31) hX (hcs 95 (Nat.le_of_ble_eq_true rfl) (Nat.le_of_ble_eq_true rfl)) sh_95 fl_11_173 rfl dX11_readTerm_31 ?_
  obtain ⟨x11, h10, h⟩ := b1_e h
  refine v_callV (pc := 34) [.int (M9.1 95 12)] (some (.int x11)) M9 hX cv_11_182 (c_X11_isDigit (sub_cs hcs (Nat.le_of_ble_eq_true rfl) (Nat.le_of_ble_eq_true rfl)) M9 (M9.1 95 12) x11 h10) (hcs 95 (Nat.le_of_ble_eq_true rfl) (Nat.le_of_ble_eq_true rfl)) sh_95 rfl rfl rfl ⟨Nat.le_of_ble_eq_true rfl, Nat.le_of_ble_eq_true rfl⟩ (Nat.le_of_ble_eq_true rfl) dX11_readTerm_34 ?_
  show VV X 4 ad cs M9 37 [(0, .ref (ad 95)), (1, .int w1), (2, .int x1)] [.int x11]
  obtain ⟨k12, ek12, h⟩ := bd_e h
  have K13 : ∀ (M14 : Mm), k12 M14 = some q → VV X 4 ad cs M14 63 [(0, .ref (ad 95)), (1, .int w1), (2, .int x1)] [] := by
    intro M14 h
    subst ek12
    refine v_aload_n (pc := 63) 0 hX dX11_readTerm_63 rfl ?_
    obtain ⟨x16, M17, h15, h⟩ := b2_e h
    refine v_callV (pc := 64) [] (some (.int x16)) M17 hX cv_11_191 (c_X11_readNumber (sub_cs hcs (Nat.le_of_ble_eq_true rfl) (Nat.le_of_ble_eq_true rfl)) M14 (x16, M17) h15) (hcs 95 (Nat.le_of_ble_eq_true rfl) (Nat.le_of_ble_eq_true rfl)) sh_95 rfl rfl rfl ⟨Nat.le_of_ble_eq_true rfl, Nat.le_of_ble_eq_true rfl⟩ (Nat.le_of_ble_eq_true rfl) dX11_readTerm_64 ?_
    show VV X 4 ad cs M17 67 [(0, .ref (ad 95)), (1, .int w1), (2, .int x1)] [.int x16]
    refine v_istore_n (pc := 67) [(3, .int x16), (0, .ref (ad 95)), (1, .int w1), (2, .int x1)] hX dX11_readTerm_67 (by decide) rfl ?_
    refine v_aload_n (pc := 68) 1 hX dX11_readTerm_68 rfl ?_
    refine v_iload_n (pc := 69) 3 hX dX11_readTerm_69 rfl ?_
    obtain ⟨M19, h18, h⟩ := b1_e h
    refine v_callV (pc := 70) [.int x1] none M19 hX cv_11_194 (c_X11_readLetters (sub_cs hcs (Nat.le_of_ble_eq_true rfl) (Nat.le_of_ble_eq_true rfl)) M17 x1 M19 h18) (hcs 95 (Nat.le_of_ble_eq_true rfl) (Nat.le_of_ble_eq_true rfl)) sh_95 rfl rfl rfl ⟨Nat.le_of_ble_eq_true rfl, Nat.le_of_ble_eq_true rfl⟩ (Nat.le_of_ble_eq_true rfl) dX11_readTerm_70 ?_
    show VV X 4 ad cs M19 73 [(3, .int x16), (0, .ref (ad 95)), (1, .int w1), (2, .int x1)] []
    refine v_aload_n (pc := 73) 1 hX dX11_readTerm_73 rfl ?_
    refine v_getR (pc := 74) (t := 102) hX (hcs 95 (Nat.le_of_ble_eq_true rfl) (Nat.le_of_ble_eq_true rfl)) sh_95 fl_11_29 rfl dX11_readTerm_74 ?_
    refine v_iconst (pc := 77) hX dX11_readTerm_77 ic_4 ?_
    refine v_iload_n (pc := 78) 3 hX dX11_readTerm_78 rfl ?_
    refine v_imul (pc := 79) hX dX11_readTerm_79 ?_
    refine v_iload_n (pc := 80) 2 hX dX11_readTerm_80 rfl ?_
    obtain ⟨k20, ek20, h⟩ := bd_e h
    have K21 : ∀ (x22 : Int32), k20 x22 = some q → VV X 4 ad cs M19 90 [(0, .ref (ad 95))] [.int x22, .int (4 * x1), .ref (ad 102)] := by
      intro x22 h
      subst ek20
      obtain ⟨g23, h⟩ := gd_e h
      obtain ⟨M24, eM24, h⟩ := bd_e h
      refine v_iast (pc := 90) hX (hcs 102 (Nat.le_of_ble_eq_true rfl) (Nat.le_of_ble_eq_true rfl)) sh_102 g23 rfl dX11_readTerm_90 eM24 ?_
      refine v_aload_n (pc := 91) 0 hX dX11_readTerm_91 rfl ?_
      refine v_dup (pc := 92) hX dX11_readTerm_92 rfl ?_
      refine v_getI (pc := 93) hX (hcs 95 (Nat.le_of_ble_eq_true rfl) (Nat.le_of_ble_eq_true rfl)) sh_95 fl_11_188 rfl dX11_readTerm_93 ?_
      refine v_iconst (pc := 96) hX dX11_readTerm_96 ic_1 ?_
      refine v_iadd (pc := 97) hX dX11_readTerm_97 ?_
      obtain ⟨M25, eM25, h⟩ := bd_e h
      refine v_putI (pc := 98) hX (hcs 95 (Nat.le_of_ble_eq_true rfl) (Nat.le_of_ble_eq_true rfl)) sh_95 pl_11_188 rfl dX11_readTerm_98 eM25 ?_
      obtain rfl := Option.some.inj h
      exact v_vret (pc := 101) hX hR dX11_readTerm_101
    refine v_if_eq (pc := 81) (tgt := 89) hX dX11_readTerm_81 (by decide) (fun h26 => ?_) (fun h26 => ?_)
    · have h := if_t h h26
      refine v_iload_n (pc := 89) 0 hX dX11_readTerm_89 rfl ?_
      exact v_sub [1] rfl (K21 x16 h)
    · have h := if_f h h26
      refine v_iload_n (pc := 84) 0 hX dX11_readTerm_84 rfl ?_
      refine v_ineg (pc := 85) hX dX11_readTerm_85 ?_
      refine v_goto (pc := 86) (tgt := 90) hX dX11_readTerm_86 (by decide) ?_
      exact v_sub [1] rfl (K21 (-x16) h)
  refine v_if_ne (pc := 37) (tgt := 63) hX dX11_readTerm_37 (by decide) (fun h27 => ?_) (fun h27 => ?_)
  · have h := if_f h h27
    exact v_sub [0, 1, 2] rfl (K13 M9 h)
  · have h := if_t h h27
    refine v_aload_n (pc := 40) 0 hX dX11_readTerm_40 rfl ?_
    refine v_aload_n (pc := 41) 0 hX dX11_readTerm_41 rfl ?_
    refine v_getI (pc := 42) hX (hcs 95 (Nat.le_of_ble_eq_true rfl) (Nat.le_of_ble_eq_true rfl)) sh_95 fl_11_173 rfl dX11_readTerm_42 ?_
    obtain ⟨x29, h28, h⟩ := b1_e h
    refine v_callV (pc := 45) [.int (M9.1 95 12)] (some (.int x29)) M9 hX cv_11_179 (c_X11_letter (sub_cs hcs (Nat.le_of_ble_eq_true rfl) (Nat.le_of_ble_eq_true rfl)) M9 (M9.1 95 12) x29 h28) (hcs 95 (Nat.le_of_ble_eq_true rfl) (Nat.le_of_ble_eq_true rfl)) sh_95 rfl rfl rfl ⟨Nat.le_of_ble_eq_true rfl, Nat.le_of_ble_eq_true rfl⟩ (Nat.le_of_ble_eq_true rfl) dX11_readTerm_45 ?_
    show VV X 4 ad cs M9 48 [(0, .ref (ad 95)), (1, .int w1), (2, .int x1)] [.int x29]
    refine v_bipush (pc := 48) hX dX11_readTerm_48 bp_120 ?_
    refine v_bipush (pc := 50) hX dX11_readTerm_50 bp_122 ?_
    obtain ⟨x31, h30, h⟩ := b1_e h
    refine v_callS (pc := 52) [.int x29, .int 120, .int 122] (some (.int x31)) M9 hX cv_11_48 (c_X11_in M9 x29 120 122 x31 h30) rfl rfl ⟨Nat.le_of_ble_eq_true rfl, Nat.le_of_ble_eq_true rfl⟩ (Nat.le_of_ble_eq_true rfl) dX11_readTerm_52 ?_
    show VV X 4 ad cs M9 55 [(0, .ref (ad 95)), (1, .int w1), (2, .int x1)] [.int x31]
    refine v_if_ne (pc := 55) (tgt := 63) hX dX11_readTerm_55 (by decide) (fun h32 => ?_) (fun h32 => ?_)
    · have h := if_f h h32
      exact v_sub [0, 1, 2] rfl (K13 M9 h)
    · have h := if_t h h32
      refine v_aload_n (pc := 58) 0 hX dX11_readTerm_58 rfl ?_
      refine v_iconst (pc := 59) hX dX11_readTerm_59 ic_1 ?_
      obtain ⟨M34, h33, h⟩ := b1_e h
      refine v_callV (pc := 60) [.int 1] none M34 hX cv_11_185 (c_X11_fail (sub_cs hcs (Nat.le_of_ble_eq_true rfl) (Nat.le_of_ble_eq_true rfl)) M9 1 M34 h33) (hcs 95 (Nat.le_of_ble_eq_true rfl) (Nat.le_of_ble_eq_true rfl)) sh_95 rfl rfl rfl ⟨Nat.le_of_ble_eq_true rfl, Nat.le_of_ble_eq_true rfl⟩ (Nat.le_of_ble_eq_true rfl) dX11_readTerm_60 ?_
      show VV X 4 ad cs M34 63 [(0, .ref (ad 95)), (1, .int w1), (2, .int x1)] []
      exact v_sub [0, 1, 2] rfl (K13 M34 h)
set_option maxHeartbeats 4000000 in
set_option maxRecDepth 100000 in
theorem c_X11_readText {ad : Nat → Nat} {cs : List Nat} (hcs : ∀ k, 95 ≤ k → k < 103 → k ∈ cs) (M : Mm) (q : Mm) (h : fX11_readText M = some q) : CT ad cs yX11_readText cX11_readText 3 none 4 89 [.ref (ad 95)] M none q := by
  refine CT.of RX11 (by decide +kernel) rfl (Nat.le_of_ble_eq_true rfl) (fun X hX hR => ?_)
  unfold fX11_readText at h
  show VV X 3 ad cs M 0 [(0, .ref (ad 95))] []
  refine v_aload_n (pc := 0) 0 hX dX11_readText_0 rfl ?_
  refine v_iconst (pc := 1) hX dX11_readText_1 ic_0 ?_
  obtain ⟨M1, eM1, h⟩ := bd_e h
  refine v_putI (pc := 2) hX (hcs 95 (Nat.le_of_ble_eq_true rfl) (Nat.le_of_ble_eq_true rfl)) sh_95 pl_11_170 rfl dX11_readText_2 eM1 ?_
  refine v_aload_n (pc := 5) 0 hX dX11_readText_5 rfl ?_
  refine v_iconst (pc := 6) hX dX11_readText_6 ic_0 ?_
  obtain ⟨M2, eM2, h⟩ := bd_e h
  refine v_putI (pc := 7) hX (hcs 95 (Nat.le_of_ble_eq_true rfl) (Nat.le_of_ble_eq_true rfl)) sh_95 pl_11_188 rfl dX11_readText_7 eM2 ?_
  refine v_aload_n (pc := 10) 0 hX dX11_readText_10 rfl ?_
  refine v_iconst (pc := 11) hX dX11_readText_11 ic_0 ?_
  obtain ⟨M3, eM3, h⟩ := bd_e h
  refine v_putI (pc := 12) hX (hcs 95 (Nat.le_of_ble_eq_true rfl) (Nat.le_of_ble_eq_true rfl)) sh_95 pl_11_173 rfl dX11_readText_12 eM3 ?_
  refine v_aload_n (pc := 15) 0 hX dX11_readText_15 rfl ?_
  refine v_iconst (pc := 16) hX dX11_readText_16 ic_0 ?_
  obtain ⟨x5, h4, h⟩ := b1_e h
  refine v_callV (pc := 17) [.int 0] (some (.int x5)) M3 hX cv_11_179 (c_X11_letter (sub_cs hcs (Nat.le_of_ble_eq_true rfl) (Nat.le_of_ble_eq_true rfl)) M3 0 x5 h4) (hcs 95 (Nat.le_of_ble_eq_true rfl) (Nat.le_of_ble_eq_true rfl)) sh_95 rfl rfl rfl ⟨Nat.le_of_ble_eq_true rfl, Nat.le_of_ble_eq_true rfl⟩ (Nat.le_of_ble_eq_true rfl) dX11_readText_17 ?_
  show VV X 3 ad cs M3 20 [(0, .ref (ad 95))] [.int x5]
  refine v_bipush (pc := 20) hX dX11_readText_20 bp_45 ?_
  obtain ⟨k6, ek6, h⟩ := bd_e h
  have K7 : ∀ (x8 : Int32), k6 x8 = some q → VV X 3 ad cs M3 30 [(0, .ref (ad 95))] [.int x8] := by
    intro x8 h
    subst ek6
    refine v_istore_n (pc := 30) [(1, .int x8), (0, .ref (ad 95))] hX dX11_readText_30 (by decide) rfl ?_
    refine v_aload_n (pc := 31) 1 hX dX11_readText_31 rfl ?_
    refine v_dup (pc := 32) hX dX11_readText_32 rfl ?_
    refine v_getI (pc := 33) hX (hcs 95 (Nat.le_of_ble_eq_true rfl) (Nat.le_of_ble_eq_true rfl)) sh_95 fl_11_173 rfl dX11_readText_33 ?_
    refine v_iload_n (pc := 36) 0 hX dX11_readText_36 rfl ?_
    obtain ⟨k9, ek9, h⟩ := bd_e h
    have K10 : ∀ (x11 : Int32), k9 x11 = some q → VV X 3 ad cs M3 45 [(0, .ref (ad 95)), (1, .int x8)] [.int x11, .int (M3.1 95 12), .ref (ad 95)] := by
      intro x11 h
      subst ek9
      refine v_iadd (pc := 45) hX dX11_readText_45 ?_
      obtain ⟨M12, eM12, h⟩ := bd_e h
      refine v_putI (pc := 46) hX (hcs 95 (Nat.le_of_ble_eq_true rfl) (Nat.le_of_ble_eq_true rfl)) sh_95 pl_11_173 rfl dX11_readText_46 eM12 ?_
      refine v_aload_n (pc := 49) 0 hX dX11_readText_49 rfl ?_
      refine v_iload_n (pc := 50) 1 hX dX11_readText_50 rfl ?_
      obtain ⟨M14, h13, h⟩ := b1_e h
      refine v_callV (pc := 51) [.int x8] none M14 hX cv_11_197 (c_X11_readTerm (sub_cs hcs (Nat.le_of_ble_eq_true rfl) (Nat.le_of_ble_eq_true rfl)) M12 x8 M14 h13) (hcs 95 (Nat.le_of_ble_eq_true rfl) (Nat.le_of_ble_eq_true rfl)) sh_95 rfl rfl rfl ⟨Nat.le_of_ble_eq_true rfl, Nat.le_of_ble_eq_true rfl⟩ (Nat.le_of_ble_eq_true rfl) dX11_readText_51 ?_
      show VV X 3 ad cs M14 54 [(0, .ref (ad 95)), (1, .int x8)] []
      have L39 := v_itr (fX11_readText_L54) (fun z => VV X 3 ad cs z 54 [(0, .ref (ad 95))] []) (fun z => VV X 3 ad cs z 146 [] []) (by
        rintro M15 q h hK
        unfold fX11_readText_L54 at h
        show VV X 3 ad cs M15 54 [(0, .ref (ad 95))] []
        refine v_aload_n (pc := 54) 0 hX dX11_readText_54 rfl ?_
        refine v_getI (pc := 55) hX (hcs 95 (Nat.le_of_ble_eq_true rfl) (Nat.le_of_ble_eq_true rfl)) sh_95 fl_11_170 rfl dX11_readText_55 ?_
        refine v_if_ne (pc := 58) (tgt := 146) hX dX11_readText_58 (by decide) (fun h16 => ?_) (fun h16 => ?_)
        · have h := if_f h h16
          obtain rfl := Option.some.inj h
          exact v_sub [] rfl hK
        · have h := if_t h h16
          refine v_aload_n (pc := 61) 0 hX dX11_readText_61 rfl ?_
          refine v_getI (pc := 62) hX (hcs 95 (Nat.le_of_ble_eq_true rfl) (Nat.le_of_ble_eq_true rfl)) sh_95 fl_11_173 rfl dX11_readText_62 ?_
          refine v_aload_n (pc := 65) 0 hX dX11_readText_65 rfl ?_
          refine v_getI (pc := 66) hX (hcs 95 (Nat.le_of_ble_eq_true rfl) (Nat.le_of_ble_eq_true rfl)) sh_95 fl_11_152 rfl dX11_readText_66 ?_
          refine v_icmp_ge (pc := 69) (tgt := 146) hX dX11_readText_69 (by decide) (fun h17 => ?_) (fun h17 => ?_)
          · have h := if_t h h17
            obtain rfl := Option.some.inj h
            exact v_sub [] rfl hK
          · have h := if_f h h17
            refine v_aload_n (pc := 72) 0 hX dX11_readText_72 rfl ?_
            refine v_aload_n (pc := 73) 0 hX dX11_readText_73 rfl ?_
            refine v_getI (pc := 74) hX (hcs 95 (Nat.le_of_ble_eq_true rfl) (Nat.le_of_ble_eq_true rfl)) sh_95 fl_11_173 rfl dX11_readText_74 ?_
            obtain ⟨x19, h18, h⟩ := b1_e h
            refine v_callV (pc := 77) [.int (M15.1 95 12)] (some (.int x19)) M15 hX cv_11_179 (c_X11_letter (sub_cs hcs (Nat.le_of_ble_eq_true rfl) (Nat.le_of_ble_eq_true rfl)) M15 (M15.1 95 12) x19 h18) (hcs 95 (Nat.le_of_ble_eq_true rfl) (Nat.le_of_ble_eq_true rfl)) sh_95 rfl rfl rfl ⟨Nat.le_of_ble_eq_true rfl, Nat.le_of_ble_eq_true rfl⟩ (Nat.le_of_ble_eq_true rfl) dX11_readText_77 ?_
            show VV X 3 ad cs M15 80 [(0, .ref (ad 95))] [.int x19]
            refine v_istore_n (pc := 80) [(2, .int x19), (0, .ref (ad 95))] hX dX11_readText_80 (by decide) rfl ?_
            refine v_iload_n (pc := 81) 0 hX dX11_readText_81 rfl ?_
            refine v_bipush (pc := 82) hX dX11_readText_82 bp_43 ?_
            obtain ⟨k20, ek20, h⟩ := bd_e h
            have K21 : ∀ (M22 : Mm), k20 M22 = some q → VV X 3 ad cs M22 143 [(0, .ref (ad 95))] [] := by
              intro M22 h
              subst ek20
              refine v_goto (pc := 143) (tgt := 54) hX dX11_readText_143 (by decide) ?_
              obtain rfl := Option.some.inj h
              exact v_sub [0] rfl hK
            obtain ⟨k23, ek23, h⟩ := bd_e h
            have K24 : ∀ (_ : Unit), k23 () = some q → VV X 3 ad cs M15 101 [(0, .ref (ad 95)), (2, .int x19)] [] := by
              intro _ h
              subst ek23
              refine v_aload_n (pc := 101) 0 hX dX11_readText_101 rfl ?_
              refine v_getI (pc := 102) hX (hcs 95 (Nat.le_of_ble_eq_true rfl) (Nat.le_of_ble_eq_true rfl)) sh_95 fl_11_188 rfl dX11_readText_102 ?_
              refine v_bipush (pc := 105) hX dX11_readText_105 bp_10 ?_
              refine v_icmp_ne (pc := 107) (tgt := 118) hX dX11_readText_107 (by decide) (fun h25 => ?_) (fun h25 => ?_)
              · have h := if_f h h25
                refine v_aload_n (pc := 118) 0 hX dX11_readText_118 rfl ?_
                refine v_dup (pc := 119) hX dX11_readText_119 rfl ?_
                refine v_getI (pc := 120) hX (hcs 95 (Nat.le_of_ble_eq_true rfl) (Nat.le_of_ble_eq_true rfl)) sh_95 fl_11_173 rfl dX11_readText_120 ?_
                refine v_iconst (pc := 123) hX dX11_readText_123 ic_1 ?_
                refine v_iadd (pc := 124) hX dX11_readText_124 ?_
                obtain ⟨M26, eM26, h⟩ := bd_e h
                refine v_putI (pc := 125) hX (hcs 95 (Nat.le_of_ble_eq_true rfl) (Nat.le_of_ble_eq_true rfl)) sh_95 pl_11_173 rfl dX11_readText_125 eM26 ?_
                refine v_aload_n (pc := 128) 0 hX dX11_readText_128 rfl ?_
                refine v_iload_n (pc := 129) 1 hX dX11_readText_129 rfl ?_
                refine v_bipush (pc := 130) hX dX11_readText_130 bp_45 ?_
                obtain ⟨k27, ek27, h⟩ := bd_e h
                have K28 : ∀ (x29 : Int32), k27 x29 = some q → VV X 3 ad cs M26 140 [(0, .ref (ad 95))] [.int x29, .ref (ad 95)] := by
                  intro x29 h
                  subst ek27
                  obtain ⟨M31, h30, h⟩ := b1_e h
                  refine v_callV (pc := 140) [.int x29] none M31 hX cv_11_197 (c_X11_readTerm (sub_cs hcs (Nat.le_of_ble_eq_true rfl) (Nat.le_of_ble_eq_true rfl)) M26 x29 M31 h30) (hcs 95 (Nat.le_of_ble_eq_true rfl) (Nat.le_of_ble_eq_true rfl)) sh_95 rfl rfl rfl ⟨Nat.le_of_ble_eq_true rfl, Nat.le_of_ble_eq_true rfl⟩ (Nat.le_of_ble_eq_true rfl) dX11_readText_140 ?_
                  show VV X 3 ad cs M31 143 [(0, .ref (ad 95))] []
                  exact v_sub [0] rfl (K21 M31 h)
                refine v_icmp_ne (pc := 132) (tgt := 139) hX dX11_readText_132 (by decide) (fun h32 => ?_) (fun h32 => ?_)
                · have h := if_f h h32
                  refine v_iconst (pc := 139) hX dX11_readText_139 ic_0 ?_
                  exact v_sub [0] rfl (K28 0 h)
                · have h := if_t h h32
                  refine v_iconst (pc := 135) hX dX11_readText_135 ic_1 ?_
                  refine v_goto (pc := 136) (tgt := 140) hX dX11_readText_136 (by decide) ?_
                  exact v_sub [0] rfl (K28 1 h)
              · have h := if_t h h25
                refine v_aload_n (pc := 110) 0 hX dX11_readText_110 rfl ?_
                refine v_iconst (pc := 111) hX dX11_readText_111 ic_4 ?_
                obtain ⟨M34, h33, h⟩ := b1_e h
                refine v_callV (pc := 112) [.int 4] none M34 hX cv_11_185 (c_X11_fail (sub_cs hcs (Nat.le_of_ble_eq_true rfl) (Nat.le_of_ble_eq_true rfl)) M15 4 M34 h33) (hcs 95 (Nat.le_of_ble_eq_true rfl) (Nat.le_of_ble_eq_true rfl)) sh_95 rfl rfl rfl ⟨Nat.le_of_ble_eq_true rfl, Nat.le_of_ble_eq_true rfl⟩ (Nat.le_of_ble_eq_true rfl) dX11_readText_112 ?_
                show VV X 3 ad cs M34 115 [(0, .ref (ad 95)), (2, .int x19)] []
                refine v_goto (pc := 115) (tgt := 143) hX dX11_readText_115 (by decide) ?_
                exact v_sub [0] rfl (K21 M34 h)
            refine v_icmp_eq (pc := 84) (tgt := 101) hX dX11_readText_84 (by decide) (fun h35 => ?_) (fun h35 => ?_)
            · have h := if_t h h35
              exact v_sub [1, 0] rfl (K24 () h)
            · have h := if_f h h35
              refine v_iload_n (pc := 87) 0 hX dX11_readText_87 rfl ?_
              refine v_bipush (pc := 88) hX dX11_readText_88 bp_45 ?_
              refine v_icmp_eq (pc := 90) (tgt := 101) hX dX11_readText_90 (by decide) (fun h36 => ?_) (fun h36 => ?_)
              · have h := if_t h h36
                exact v_sub [1, 0] rfl (K24 () h)
              · have h := if_f h h36
                refine v_aload_n (pc := 93) 1 hX dX11_readText_93 rfl ?_
                refine v_iconst (pc := 94) hX dX11_readText_94 ic_1 ?_
                obtain ⟨M38, h37, h⟩ := b1_e h
                refine v_callV (pc := 95) [.int 1] none M38 hX cv_11_185 (c_X11_fail (sub_cs hcs (Nat.le_of_ble_eq_true rfl) (Nat.le_of_ble_eq_true rfl)) M15 1 M38 h37) (hcs 95 (Nat.le_of_ble_eq_true rfl) (Nat.le_of_ble_eq_true rfl)) sh_95 rfl rfl rfl ⟨Nat.le_of_ble_eq_true rfl, Nat.le_of_ble_eq_true rfl⟩ (Nat.le_of_ble_eq_true rfl) dX11_readText_95 ?_
                show VV X 3 ad cs M38 98 [(2, .int x19), (0, .ref (ad 95))] []
                refine v_goto (pc := 98) (tgt := 143) hX dX11_readText_98 (by decide) ?_
                exact v_sub [1] rfl (K21 M38 h)
      )
      obtain ⟨M40, h41, h⟩ := b1_e h
      refine v_sub [0] rfl ?_
      refine L39 1000 _ _ h41 ?_
      show VV X 3 ad cs M40 146 [] []
      obtain rfl := Option.some.inj h
      exact v_vret (pc := 146) hX hR dX11_readText_146
    refine v_if_eq (pc := 37) (tgt := 44) hX dX11_readText_37 (by decide) (fun h42 => ?_) (fun h42 => ?_)
    · have h := if_t h h42
      refine v_iconst (pc := 44) hX dX11_readText_44 ic_0 ?_
      exact v_sub [1, 0] rfl (K10 0 h)
    · have h := if_f h h42
      refine v_iconst (pc := 40) hX dX11_readText_40 ic_1 ?_
      refine v_goto (pc := 41) (tgt := 45) hX dX11_readText_41 (by decide) ?_
      exact v_sub [1, 0] rfl (K10 1 h)
  refine v_icmp_ne (pc := 22) (tgt := 29) hX dX11_readText_22 (by decide) (fun h43 => ?_) (fun h43 => ?_)
  · have h := if_f h h43
    refine v_iconst (pc := 29) hX dX11_readText_29 ic_0 ?_
    exact v_sub [0] rfl (K7 0 h)
  · have h := if_t h h43
    refine v_iconst (pc := 25) hX dX11_readText_25 ic_1 ?_
    refine v_goto (pc := 26) (tgt := 30) hX dX11_readText_26 (by decide) ?_
    exact v_sub [0] rfl (K7 1 h)
set_option maxHeartbeats 4000000 in
set_option maxRecDepth 100000 in
theorem c_X11_fault {ad : Nat → Nat} {cs : List Nat} (hcs : ∀ k, 95 ≤ k → k < 103 → k ∈ cs) (M : Mm) (w1 : Int32) (q : Int32 × Mm) (h : fX11_fault M w1 = some q) : CT ad cs yX11_fault cX11_fault 2 (some .int) 5 111 [.ref (ad 95), .int w1] M (some (.int q.1)) q.2 := by
  refine CT.of RX11 (by decide +kernel) rfl (Nat.le_of_ble_eq_true rfl) (fun X hX hR => ?_)
  unfold fX11_fault at h
  show VV X 2 ad cs M 0 [(0, .ref (ad 95)), (1, .int w1)] []
  refine v_iload_n (pc := 0) 1 hX dX11_fault_0 rfl ?_
  refine v_iconst (pc := 1) hX dX11_fault_1 ic_0 ?_
  refine v_iconst (pc := 2) hX dX11_fault_2 ic_1 ?_
  obtain ⟨x2, h1, h⟩ := b1_e h
  refine v_callS (pc := 3) [.int w1, .int 0, .int 1] (some (.int x2)) M hX cv_11_48 (c_X11_in M w1 0 1 x2 h1) rfl rfl ⟨Nat.le_of_ble_eq_true rfl, Nat.le_of_ble_eq_true rfl⟩ (Nat.le_of_ble_eq_true rfl) dX11_fault_3 ?_
  show VV X 2 ad cs M 6 [(0, .ref (ad 95)), (1, .int w1)] [.int x2]
  refine v_if_ne (pc := 6) (tgt := 12) hX dX11_fault_6 (by decide) (fun h3 => ?_) (fun h3 => ?_)
  · have h := if_f h h3
    refine v_aload_n (pc := 12) 0 hX dX11_fault_12 rfl ?_
    obtain ⟨M5, h4, h⟩ := b1_e h
    refine v_callV (pc := 13) [] none M5 hX cv_11_201 (c_X11_readText (sub_cs hcs (Nat.le_of_ble_eq_true rfl) (Nat.le_of_ble_eq_true rfl)) M M5 h4) (hcs 95 (Nat.le_of_ble_eq_true rfl) (Nat.le_of_ble_eq_true rfl)) sh_95 rfl rfl rfl ⟨Nat.le_of_ble_eq_true rfl, Nat.le_of_ble_eq_true rfl⟩ (Nat.le_of_ble_eq_true rfl) dX11_fault_13 ?_
    show VV X 2 ad cs M5 16 [(0, .ref (ad 95)), (1, .int w1)] []
    refine v_aload_n (pc := 16) 0 hX dX11_fault_16 rfl ?_
    refine v_getI (pc := 17) hX (hcs 95 (Nat.le_of_ble_eq_true rfl) (Nat.le_of_ble_eq_true rfl)) sh_95 fl_11_170 rfl dX11_fault_17 ?_
    refine v_if_ne (pc := 20) (tgt := 28) hX dX11_fault_20 (by decide) (fun h6 => ?_) (fun h6 => ?_)
    · have h := if_f h h6
      refine v_iload_n (pc := 28) 1 hX dX11_fault_28 rfl ?_
      refine v_if_ne (pc := 29) (tgt := 39) hX dX11_fault_29 (by decide) (fun h7 => ?_) (fun h7 => ?_)
      · have h := if_f h h7
        refine v_aload_n (pc := 39) 0 hX dX11_fault_39 rfl ?_
        refine v_getI (pc := 40) hX (hcs 95 (Nat.le_of_ble_eq_true rfl) (Nat.le_of_ble_eq_true rfl)) sh_95 fl_11_170 rfl dX11_fault_40 ?_
        obtain rfl := Option.some.inj h
        exact v_iret (pc := 43) hX hR dX11_fault_43
      · have h := if_t h h7
        refine v_aload_n (pc := 32) 0 hX dX11_fault_32 rfl ?_
        refine v_getI (pc := 33) hX (hcs 95 (Nat.le_of_ble_eq_true rfl) (Nat.le_of_ble_eq_true rfl)) sh_95 fl_11_176 rfl dX11_fault_33 ?_
        refine v_goto (pc := 36) (tgt := 43) hX dX11_fault_36 (by decide) ?_
        obtain rfl := Option.some.inj h
        exact v_iret (pc := 43) hX hR dX11_fault_43
    · have h := if_t h h6
      refine v_ldc (pc := 23) hX kc_11_151 dX11_fault_23 ?_
      refine v_goto (pc := 25) (tgt := 43) hX dX11_fault_25 (by decide) ?_
      obtain rfl := Option.some.inj h
      exact v_iret (pc := 43) hX hR dX11_fault_43
  · have h := if_t h h3
    refine v_ldc (pc := 9) hX kc_11_70 dX11_fault_9 ?_
    obtain rfl := Option.some.inj h
    exact v_iret (pc := 11) hX hR dX11_fault_11
set_option maxHeartbeats 4000000 in
set_option maxRecDepth 100000 in
theorem c_X11_read {ad : Nat → Nat} {cs : List Nat} (hcs : ∀ k, 95 ≤ k → k < 103 → k ∈ cs) (M : Mm) (q : Int32 × Mm) (h : fX11_read M = some q) : CT ad cs yX11_read cX11_read 2 (some .int) 5 111 [.ref (ad 95)] M (some (.int q.1)) q.2 := by
  refine CT.of RX11 (by decide +kernel) rfl (Nat.le_of_ble_eq_true rfl) (fun X hX hR => ?_)
  unfold fX11_read at h
  show VV X 2 ad cs M 0 [(0, .ref (ad 95))] []
  refine v_aload_n (pc := 0) 0 hX dX11_read_0 rfl ?_
  obtain ⟨M2, h1, h⟩ := b1_e h
  refine v_callV (pc := 1) [] none M2 hX cv_11_201 (c_X11_readText (sub_cs hcs (Nat.le_of_ble_eq_true rfl) (Nat.le_of_ble_eq_true rfl)) M M2 h1) (hcs 95 (Nat.le_of_ble_eq_true rfl) (Nat.le_of_ble_eq_true rfl)) sh_95 rfl rfl rfl ⟨Nat.le_of_ble_eq_true rfl, Nat.le_of_ble_eq_true rfl⟩ (Nat.le_of_ble_eq_true rfl) dX11_read_1 ?_
  show VV X 2 ad cs M2 4 [(0, .ref (ad 95))] []
  refine v_aload_n (pc := 4) 0 hX dX11_read_4 rfl ?_
  refine v_getI (pc := 5) hX (hcs 95 (Nat.le_of_ble_eq_true rfl) (Nat.le_of_ble_eq_true rfl)) sh_95 fl_11_170 rfl dX11_read_5 ?_
  refine v_if_eq (pc := 8) (tgt := 14) hX dX11_read_8 (by decide) (fun h3 => ?_) (fun h3 => ?_)
  · have h := if_t h h3
    refine v_aload_n (pc := 14) 0 hX dX11_read_14 rfl ?_
    obtain ⟨M5, h4, h⟩ := b1_e h
    refine v_callV (pc := 15) [] none M5 hX cv_11_45 (c_X11_record (sub_cs hcs (Nat.le_of_ble_eq_true rfl) (Nat.le_of_ble_eq_true rfl)) M2 M5 h4) (hcs 95 (Nat.le_of_ble_eq_true rfl) (Nat.le_of_ble_eq_true rfl)) sh_95 rfl rfl rfl ⟨Nat.le_of_ble_eq_true rfl, Nat.le_of_ble_eq_true rfl⟩ (Nat.le_of_ble_eq_true rfl) dX11_read_15 ?_
    show VV X 2 ad cs M5 18 [(0, .ref (ad 95))] []
    refine v_aload_n (pc := 18) 0 hX dX11_read_18 rfl ?_
    refine v_getR (pc := 19) (t := 96) hX (hcs 95 (Nat.le_of_ble_eq_true rfl) (Nat.le_of_ble_eq_true rfl)) sh_95 fl_11_7 rfl dX11_read_19 ?_
    refine v_iconst (pc := 22) hX dX11_read_22 ic_1 ?_
    refine v_aload_n (pc := 23) 0 hX dX11_read_23 rfl ?_
    refine v_getI (pc := 24) hX (hcs 95 (Nat.le_of_ble_eq_true rfl) (Nat.le_of_ble_eq_true rfl)) sh_95 fl_11_188 rfl dX11_read_24 ?_
    obtain ⟨M6, eM6, h⟩ := bd_e h
    refine v_iast (pc := 27) hX (hcs 96 (Nat.le_of_ble_eq_true rfl) (Nat.le_of_ble_eq_true rfl)) sh_96 (ib_1 (by decide)) ix_1 dX11_read_27 eM6 ?_
    refine v_iconst (pc := 28) hX dX11_read_28 ic_0 ?_
    refine v_istore_n (pc := 29) [(1, .int 0), (0, .ref (ad 95))] hX dX11_read_29 (by decide) rfl ?_
    have L17 := v_itr (fX11_read_L30) (fun z => VV X 2 ad cs z.2 30 [(0, .ref (ad 95)), (1, .int z.1)] []) (fun z => VV X 2 ad cs z 87 [(0, .ref (ad 95))] []) (by
      rintro ⟨x7, M8⟩ q h hK
      unfold fX11_read_L30 at h
      have h := u2_b h
      show VV X 2 ad cs M8 30 [(0, .ref (ad 95)), (1, .int x7)] []
      refine v_iload_n (pc := 30) 1 hX dX11_read_30 rfl ?_
      refine v_aload_n (pc := 31) 0 hX dX11_read_31 rfl ?_
      refine v_getI (pc := 32) hX (hcs 95 (Nat.le_of_ble_eq_true rfl) (Nat.le_of_ble_eq_true rfl)) sh_95 fl_11_188 rfl dX11_read_32 ?_
      refine v_icmp_ge (pc := 35) (tgt := 87) hX dX11_read_35 (by decide) (fun h9 => ?_) (fun h9 => ?_)
      · have h := if_t h h9
        obtain rfl := Option.some.inj h
        exact v_sub [0] rfl hK
      · have h := if_f h h9
        refine v_aload_n (pc := 38) 0 hX dX11_read_38 rfl ?_
        refine v_iload_n (pc := 39) 1 hX dX11_read_39 rfl ?_
        refine v_aload_n (pc := 40) 0 hX dX11_read_40 rfl ?_
        refine v_getR (pc := 41) (t := 102) hX (hcs 95 (Nat.le_of_ble_eq_true rfl) (Nat.le_of_ble_eq_true rfl)) sh_95 fl_11_29 rfl dX11_read_41 ?_
        refine v_iconst (pc := 44) hX dX11_read_44 ic_4 ?_
        refine v_iload_n (pc := 45) 1 hX dX11_read_45 rfl ?_
        refine v_imul (pc := 46) hX dX11_read_46 ?_
        obtain ⟨g10, h⟩ := gd_e h
        refine v_iald (pc := 47) hX (hcs 102 (Nat.le_of_ble_eq_true rfl) (Nat.le_of_ble_eq_true rfl)) sh_102 g10 rfl dX11_read_47 ?_
        refine v_aload_n (pc := 48) 0 hX dX11_read_48 rfl ?_
        refine v_getR (pc := 49) (t := 102) hX (hcs 95 (Nat.le_of_ble_eq_true rfl) (Nat.le_of_ble_eq_true rfl)) sh_95 fl_11_29 rfl dX11_read_49 ?_
        refine v_iconst (pc := 52) hX dX11_read_52 ic_4 ?_
        refine v_iload_n (pc := 53) 1 hX dX11_read_53 rfl ?_
        refine v_imul (pc := 54) hX dX11_read_54 ?_
        refine v_iconst (pc := 55) hX dX11_read_55 ic_1 ?_
        refine v_iadd (pc := 56) hX dX11_read_56 ?_
        obtain ⟨g11, h⟩ := gd_e h
        refine v_iald (pc := 57) hX (hcs 102 (Nat.le_of_ble_eq_true rfl) (Nat.le_of_ble_eq_true rfl)) sh_102 g11 rfl dX11_read_57 ?_
        refine v_aload_n (pc := 58) 0 hX dX11_read_58 rfl ?_
        refine v_getR (pc := 59) (t := 102) hX (hcs 95 (Nat.le_of_ble_eq_true rfl) (Nat.le_of_ble_eq_true rfl)) sh_95 fl_11_29 rfl dX11_read_59 ?_
        refine v_iconst (pc := 62) hX dX11_read_62 ic_4 ?_
        refine v_iload_n (pc := 63) 1 hX dX11_read_63 rfl ?_
        refine v_imul (pc := 64) hX dX11_read_64 ?_
        refine v_iconst (pc := 65) hX dX11_read_65 ic_2 ?_
        refine v_iadd (pc := 66) hX dX11_read_66 ?_
        obtain ⟨g12, h⟩ := gd_e h
        refine v_iald (pc := 67) hX (hcs 102 (Nat.le_of_ble_eq_true rfl) (Nat.le_of_ble_eq_true rfl)) sh_102 g12 rfl dX11_read_67 ?_
        refine v_aload_n (pc := 68) 0 hX dX11_read_68 rfl ?_
        refine v_getR (pc := 69) (t := 102) hX (hcs 95 (Nat.le_of_ble_eq_true rfl) (Nat.le_of_ble_eq_true rfl)) sh_95 fl_11_29 rfl dX11_read_69 ?_
        refine v_iconst (pc := 72) hX dX11_read_72 ic_4 ?_
        refine v_iload_n (pc := 73) 1 hX dX11_read_73 rfl ?_
        refine v_imul (pc := 74) hX dX11_read_74 ?_
        refine v_iconst (pc := 75) hX dX11_read_75 ic_3 ?_
        refine v_iadd (pc := 76) hX dX11_read_76 ?_
        obtain ⟨g13, h⟩ := gd_e h
        refine v_iald (pc := 77) hX (hcs 102 (Nat.le_of_ble_eq_true rfl) (Nat.le_of_ble_eq_true rfl)) sh_102 g13 rfl dX11_read_77 ?_
        obtain ⟨M15, h14, h⟩ := b1_e h
        refine v_callV (pc := 78) [.int x7, .int (M8.1 102 (ix (4 * x7))), .int (M8.1 102 (ix ((4 * x7) + 1))), .int (M8.1 102 (ix ((4 * x7) + 2))), .int (M8.1 102 (ix ((4 * x7) + 3)))] none M15 hX cv_11_76 (c_X11_putTerm (sub_cs hcs (Nat.le_of_ble_eq_true rfl) (Nat.le_of_ble_eq_true rfl)) M8 x7 (M8.1 102 (ix (4 * x7))) (M8.1 102 (ix ((4 * x7) + 1))) (M8.1 102 (ix ((4 * x7) + 2))) (M8.1 102 (ix ((4 * x7) + 3))) M15 h14) (hcs 95 (Nat.le_of_ble_eq_true rfl) (Nat.le_of_ble_eq_true rfl)) sh_95 rfl rfl rfl ⟨Nat.le_of_ble_eq_true rfl, Nat.le_of_ble_eq_true rfl⟩ (Nat.le_of_ble_eq_true rfl) dX11_read_78 ?_
        show VV X 2 ad cs M15 81 [(0, .ref (ad 95)), (1, .int x7)] []
        obtain ⟨x16, ex16, h⟩ := bd_e h
        refine v_iinc (v := x16) (pc := 81) 1 [(1, .int x16), (0, .ref (ad 95))] hX dX11_read_81 rfl (ex16.trans (by rw [ic_1])) (by decide) rfl ?_
        refine v_goto (pc := 84) (tgt := 30) hX dX11_read_84 (by decide) ?_
        obtain rfl := Option.some.inj h
        exact v_sub [1, 0] rfl hK
    )
    obtain ⟨M18, h19, h⟩ := b1_e h
    refine v_sub [1, 0] rfl ?_
    refine L17 1000 _ _ h19 ?_
    show VV X 2 ad cs M18 87 [(0, .ref (ad 95))] []
    refine v_aload_n (pc := 87) 0 hX dX11_read_87 rfl ?_
    refine v_getI (pc := 88) hX (hcs 95 (Nat.le_of_ble_eq_true rfl) (Nat.le_of_ble_eq_true rfl)) sh_95 fl_11_188 rfl dX11_read_88 ?_
    obtain rfl := Option.some.inj h
    exact v_iret (pc := 91) hX hR dX11_read_91
  · have h := if_f h h3
    refine v_ldc (pc := 11) hX kc_11_40 dX11_read_11 ?_
    obtain rfl := Option.some.inj h
    exact v_iret (pc := 13) hX hR dX11_read_13
