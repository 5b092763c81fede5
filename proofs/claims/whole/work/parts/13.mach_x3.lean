set_option maxHeartbeats 4000000 in
set_option maxRecDepth 100000 in
theorem c_X8_setFault {ad : Nat → Nat} {cs : List Nat} (hcs : ∀ k, 80 ≤ k → k < 81 → k ∈ cs) (M : Mm) (w1 : Int32) (w2 : Int32) (q : Mm) (h : fX8_setFault M w1 w2 = some q) : CT ad cs yX8_setFault cX8_setFault 3 none 0 0 [.ref (ad 80), .int w1, .int w2] M none q := by
  refine CT.of RX8 (by decide +kernel) rfl (Nat.le_of_ble_eq_true rfl) (fun X hX hR => ?_)
  unfold fX8_setFault at h
  show VV X 3 ad cs M 0 [(0, .ref (ad 80)), (1, .int w1), (2, .int w2)] []
  refine v_aload_n (pc := 0) 0 hX dX8_setFault_0 rfl ?_
  refine v_iload_n (pc := 1) 1 hX dX8_setFault_1 rfl ?_
  obtain ⟨M1, eM1, h⟩ := bd_e h
  refine v_putI (pc := 2) hX (hcs 80 (Nat.le_of_ble_eq_true rfl) (Nat.le_of_ble_eq_true rfl)) sh_80 pl_8_32 rfl dX8_setFault_2 eM1 ?_
  refine v_aload_n (pc := 5) 0 hX dX8_setFault_5 rfl ?_
  refine v_iload_n (pc := 6) 2 hX dX8_setFault_6 rfl ?_
  obtain ⟨M2, eM2, h⟩ := bd_e h
  refine v_putI (pc := 7) hX (hcs 80 (Nat.le_of_ble_eq_true rfl) (Nat.le_of_ble_eq_true rfl)) sh_80 pl_8_35 rfl dX8_setFault_7 eM2 ?_
  obtain rfl := Option.some.inj h
  exact v_vret (pc := 10) hX hR dX8_setFault_10
set_option maxHeartbeats 4000000 in
set_option maxRecDepth 100000 in
theorem c_X8_scanEnd {ad : Nat → Nat} {cs : List Nat} (hcs : ∀ k, 80 ≤ k → k < 86 → k ∈ cs) (M : Mm) (q : Mm) (h : fX8_scanEnd M = some q) : CT ad cs yX8_scanEnd cX8_scanEnd 1 none 2 45 [.ref (ad 80)] M none q := by
  refine CT.of RX8 (by decide +kernel) rfl (Nat.le_of_ble_eq_true rfl) (fun X hX hR => ?_)
  unfold fX8_scanEnd at h
  show VV X 1 ad cs M 0 [(0, .ref (ad 80))] []
  refine v_aload_n (pc := 0) 0 hX dX8_scanEnd_0 rfl ?_
  obtain ⟨x2, h1, h⟩ := b1_e h
  refine v_callV (pc := 1) [] (some (.int x2)) M hX cv_8_76 (c_X8_termIsEmpty (sub_cs hcs (Nat.le_of_ble_eq_true rfl) (Nat.le_of_ble_eq_true rfl)) M x2 h1) (hcs 80 (Nat.le_of_ble_eq_true rfl) (Nat.le_of_ble_eq_true rfl)) sh_80 rfl rfl rfl ⟨Nat.le_of_ble_eq_true rfl, Nat.le_of_ble_eq_true rfl⟩ (Nat.le_of_ble_eq_true rfl) dX8_scanEnd_1 ?_
  show VV X 1 ad cs M 4 [(0, .ref (ad 80))] [.int x2]
  refine v_if_eq (pc := 4) (tgt := 19) hX dX8_scanEnd_4 (by decide) (fun h3 => ?_) (fun h3 => ?_)
  · have h := if_t h h3
    refine v_aload_n (pc := 19) 0 hX dX8_scanEnd_19 rfl ?_
    obtain ⟨M5, h4, h⟩ := b1_e h
    refine v_callV (pc := 20) [] none M5 hX cv_8_84 (c_X8_endTerm (sub_cs hcs (Nat.le_of_ble_eq_true rfl) (Nat.le_of_ble_eq_true rfl)) M M5 h4) (hcs 80 (Nat.le_of_ble_eq_true rfl) (Nat.le_of_ble_eq_true rfl)) sh_80 rfl rfl rfl ⟨Nat.le_of_ble_eq_true rfl, Nat.le_of_ble_eq_true rfl⟩ (Nat.le_of_ble_eq_true rfl) dX8_scanEnd_20 ?_
    show VV X 1 ad cs M5 23 [(0, .ref (ad 80))] []
    obtain rfl := Option.some.inj h
    exact v_vret (pc := 23) hX hR dX8_scanEnd_23
  · have h := if_f h h3
    refine v_aload_n (pc := 7) 0 hX dX8_scanEnd_7 rfl ?_
    refine v_aload_n (pc := 8) 0 hX dX8_scanEnd_8 rfl ?_
    refine v_getI (pc := 9) hX (hcs 80 (Nat.le_of_ble_eq_true rfl) (Nat.le_of_ble_eq_true rfl)) sh_80 fl_8_25 rfl dX8_scanEnd_9 ?_
    refine v_iconst (pc := 12) hX dX8_scanEnd_12 ic_1 ?_
    obtain ⟨M7, h6, h⟩ := b1_e h
    refine v_callV (pc := 13) [.int (M.1 80 0), .int 1] none M7 hX cv_8_64 (c_X8_setFault (sub_cs hcs (Nat.le_of_ble_eq_true rfl) (Nat.le_of_ble_eq_true rfl)) M (M.1 80 0) 1 M7 h6) (hcs 80 (Nat.le_of_ble_eq_true rfl) (Nat.le_of_ble_eq_true rfl)) sh_80 rfl rfl rfl ⟨Nat.le_of_ble_eq_true rfl, Nat.le_of_ble_eq_true rfl⟩ (Nat.le_of_ble_eq_true rfl) dX8_scanEnd_13 ?_
    show VV X 1 ad cs M7 16 [(0, .ref (ad 80))] []
    refine v_goto (pc := 16) (tgt := 23) hX dX8_scanEnd_16 (by decide) ?_
    obtain rfl := Option.some.inj h
    exact v_vret (pc := 23) hX hR dX8_scanEnd_23
set_option maxHeartbeats 4000000 in
set_option maxRecDepth 100000 in
theorem c_X8_scanSign {ad : Nat → Nat} {cs : List Nat} (hcs : ∀ k, 80 ≤ k → k < 86 → k ∈ cs) (M : Mm) (w1 : Int32) (w2 : Int32) (q : Mm) (h : fX8_scanSign M w1 w2 = some q) : CT ad cs yX8_scanSign cX8_scanSign 3 none 2 45 [.ref (ad 80), .int w1, .int w2] M none q := by
  refine CT.of RX8 (by decide +kernel) rfl (Nat.le_of_ble_eq_true rfl) (fun X hX hR => ?_)
  unfold fX8_scanSign at h
  show VV X 3 ad cs M 0 [(0, .ref (ad 80)), (1, .int w1), (2, .int w2)] []
  refine v_aload_n (pc := 0) 0 hX dX8_scanSign_0 rfl ?_
  obtain ⟨x2, h1, h⟩ := b1_e h
  refine v_callV (pc := 1) [] (some (.int x2)) M hX cv_8_76 (c_X8_termIsEmpty (sub_cs hcs (Nat.le_of_ble_eq_true rfl) (Nat.le_of_ble_eq_true rfl)) M x2 h1) (hcs 80 (Nat.le_of_ble_eq_true rfl) (Nat.le_of_ble_eq_true rfl)) sh_80 rfl rfl rfl ⟨Nat.le_of_ble_eq_true rfl, Nat.le_of_ble_eq_true rfl⟩ (Nat.le_of_ble_eq_true rfl) dX8_scanSign_1 ?_
  show VV X 3 ad cs M 4 [(0, .ref (ad 80)), (1, .int w1), (2, .int w2)] [.int x2]
  refine v_if_eq (pc := 4) (tgt := 32) hX dX8_scanSign_4 (by decide) (fun h3 => ?_) (fun h3 => ?_)
  · have h := if_t h h3
    refine v_aload_n (pc := 32) 0 hX dX8_scanSign_32 rfl ?_
    refine v_getR (pc := 33) (t := 82) hX (hcs 80 (Nat.le_of_ble_eq_true rfl) (Nat.le_of_ble_eq_true rfl)) sh_80 fl_8_18 rfl dX8_scanSign_33 ?_
    refine v_getI (pc := 36) hX (hcs 82 (Nat.le_of_ble_eq_true rfl) (Nat.le_of_ble_eq_true rfl)) sh_82 fl_8_29 rfl dX8_scanSign_36 ?_
    refine v_iconst (pc := 39) hX dX8_scanSign_39 ic_1 ?_
    refine v_iadd (pc := 40) hX dX8_scanSign_40 ?_
    refine v_bipush (pc := 41) hX dX8_scanSign_41 bp_10 ?_
    refine v_icmp_lt (pc := 43) (tgt := 55) hX dX8_scanSign_43 (by decide) (fun h4 => ?_) (fun h4 => ?_)
    · have h := if_t h h4
      refine v_aload_n (pc := 55) 0 hX dX8_scanSign_55 rfl ?_
      obtain ⟨M6, h5, h⟩ := b1_e h
      refine v_callV (pc := 56) [] none M6 hX cv_8_84 (c_X8_endTerm (sub_cs hcs (Nat.le_of_ble_eq_true rfl) (Nat.le_of_ble_eq_true rfl)) M M6 h5) (hcs 80 (Nat.le_of_ble_eq_true rfl) (Nat.le_of_ble_eq_true rfl)) sh_80 rfl rfl rfl ⟨Nat.le_of_ble_eq_true rfl, Nat.le_of_ble_eq_true rfl⟩ (Nat.le_of_ble_eq_true rfl) dX8_scanSign_56 ?_
      show VV X 3 ad cs M6 59 [(0, .ref (ad 80)), (1, .int w1), (2, .int w2)] []
      refine v_aload_n (pc := 59) 0 hX dX8_scanSign_59 rfl ?_
      refine v_iload_n (pc := 60) 2 hX dX8_scanSign_60 rfl ?_
      obtain ⟨M8, h7, h⟩ := b1_e h
      refine v_callV (pc := 61) [.int w2] none M8 hX cv_8_38 (c_X8_beginTerm (sub_cs hcs (Nat.le_of_ble_eq_true rfl) (Nat.le_of_ble_eq_true rfl)) M6 w2 M8 h7) (hcs 80 (Nat.le_of_ble_eq_true rfl) (Nat.le_of_ble_eq_true rfl)) sh_80 rfl rfl rfl ⟨Nat.le_of_ble_eq_true rfl, Nat.le_of_ble_eq_true rfl⟩ (Nat.le_of_ble_eq_true rfl) dX8_scanSign_61 ?_
      show VV X 3 ad cs M8 64 [(0, .ref (ad 80)), (1, .int w1), (2, .int w2)] []
      obtain rfl := Option.some.inj h
      exact v_vret (pc := 64) hX hR dX8_scanSign_64
    · have h := if_f h h4
      refine v_aload_n (pc := 46) 0 hX dX8_scanSign_46 rfl ?_
      refine v_iload_n (pc := 47) 1 hX dX8_scanSign_47 rfl ?_
      refine v_iconst (pc := 48) hX dX8_scanSign_48 ic_4 ?_
      obtain ⟨M10, h9, h⟩ := b1_e h
      refine v_callV (pc := 49) [.int w1, .int 4] none M10 hX cv_8_64 (c_X8_setFault (sub_cs hcs (Nat.le_of_ble_eq_true rfl) (Nat.le_of_ble_eq_true rfl)) M w1 4 M10 h9) (hcs 80 (Nat.le_of_ble_eq_true rfl) (Nat.le_of_ble_eq_true rfl)) sh_80 rfl rfl rfl ⟨Nat.le_of_ble_eq_true rfl, Nat.le_of_ble_eq_true rfl⟩ (Nat.le_of_ble_eq_true rfl) dX8_scanSign_49 ?_
      show VV X 3 ad cs M10 52 [(0, .ref (ad 80)), (1, .int w1), (2, .int w2)] []
      refine v_goto (pc := 52) (tgt := 64) hX dX8_scanSign_52 (by decide) ?_
      obtain rfl := Option.some.inj h
      exact v_vret (pc := 64) hX hR dX8_scanSign_64
  · have h := if_f h h3
    refine v_iload_n (pc := 7) 1 hX dX8_scanSign_7 rfl ?_
    refine v_if_ne (pc := 8) (tgt := 23) hX dX8_scanSign_8 (by decide) (fun h11 => ?_) (fun h11 => ?_)
    · have h := if_f h h11
      refine v_aload_n (pc := 23) 0 hX dX8_scanSign_23 rfl ?_
      refine v_iload_n (pc := 24) 1 hX dX8_scanSign_24 rfl ?_
      refine v_iconst (pc := 25) hX dX8_scanSign_25 ic_1 ?_
      obtain ⟨M13, h12, h⟩ := b1_e h
      refine v_callV (pc := 26) [.int w1, .int 1] none M13 hX cv_8_64 (c_X8_setFault (sub_cs hcs (Nat.le_of_ble_eq_true rfl) (Nat.le_of_ble_eq_true rfl)) M w1 1 M13 h12) (hcs 80 (Nat.le_of_ble_eq_true rfl) (Nat.le_of_ble_eq_true rfl)) sh_80 rfl rfl rfl ⟨Nat.le_of_ble_eq_true rfl, Nat.le_of_ble_eq_true rfl⟩ (Nat.le_of_ble_eq_true rfl) dX8_scanSign_26 ?_
      show VV X 3 ad cs M13 29 [(0, .ref (ad 80)), (1, .int w1), (2, .int w2)] []
      refine v_goto (pc := 29) (tgt := 64) hX dX8_scanSign_29 (by decide) ?_
      obtain rfl := Option.some.inj h
      exact v_vret (pc := 64) hX hR dX8_scanSign_64
    · have h := if_t h h11
      refine v_iload_n (pc := 11) 2 hX dX8_scanSign_11 rfl ?_
      refine v_if_eq (pc := 12) (tgt := 23) hX dX8_scanSign_12 (by decide) (fun h14 => ?_) (fun h14 => ?_)
      · have h := if_t h h14
        refine v_aload_n (pc := 23) 0 hX dX8_scanSign_23 rfl ?_
        refine v_iload_n (pc := 24) 1 hX dX8_scanSign_24 rfl ?_
        refine v_iconst (pc := 25) hX dX8_scanSign_25 ic_1 ?_
        obtain ⟨M16, h15, h⟩ := b1_e h
        refine v_callV (pc := 26) [.int w1, .int 1] none M16 hX cv_8_64 (c_X8_setFault (sub_cs hcs (Nat.le_of_ble_eq_true rfl) (Nat.le_of_ble_eq_true rfl)) M w1 1 M16 h15) (hcs 80 (Nat.le_of_ble_eq_true rfl) (Nat.le_of_ble_eq_true rfl)) sh_80 rfl rfl rfl ⟨Nat.le_of_ble_eq_true rfl, Nat.le_of_ble_eq_true rfl⟩ (Nat.le_of_ble_eq_true rfl) dX8_scanSign_26 ?_
        show VV X 3 ad cs M16 29 [(0, .ref (ad 80)), (1, .int w1), (2, .int w2)] []
        refine v_goto (pc := 29) (tgt := 64) hX dX8_scanSign_29 (by decide) ?_
        obtain rfl := Option.some.inj h
        exact v_vret (pc := 64) hX hR dX8_scanSign_64
      · have h := if_f h h14
        refine v_aload_n (pc := 15) 0 hX dX8_scanSign_15 rfl ?_
        refine v_iconst (pc := 16) hX dX8_scanSign_16 ic_1 ?_
        obtain ⟨M17, eM17, h⟩ := bd_e h
        refine v_putZ (pc := 17) hX (hcs 80 (Nat.le_of_ble_eq_true rfl) (Nat.le_of_ble_eq_true rfl)) sh_80 pl_8_80 rfl (Or.inr rfl) dX8_scanSign_17 eM17 ?_
        refine v_goto (pc := 20) (tgt := 64) hX dX8_scanSign_20 (by decide) ?_
        obtain rfl := Option.some.inj h
        exact v_vret (pc := 64) hX hR dX8_scanSign_64
set_option maxHeartbeats 4000000 in
set_option maxRecDepth 100000 in
theorem c_X8_scanDigit {ad : Nat → Nat} {cs : List Nat} (hcs : ∀ k, 80 ≤ k → k < 81 → k ∈ cs) (M : Mm) (w1 : Int32) (w2 : Int32) (q : Mm) (h : fX8_scanDigit M w1 w2 = some q) : CT ad cs yX8_scanDigit cX8_scanDigit 3 none 1 22 [.ref (ad 80), .int w1, .int w2] M none q := by
  refine CT.of RX8 (by decide +kernel) rfl (Nat.le_of_ble_eq_true rfl) (fun X hX hR => ?_)
  unfold fX8_scanDigit at h
  show VV X 3 ad cs M 0 [(0, .ref (ad 80)), (1, .int w1), (2, .int w2)] []
  refine v_aload_n (pc := 0) 0 hX dX8_scanDigit_0 rfl ?_
  refine v_getI (pc := 1) hX (hcs 80 (Nat.le_of_ble_eq_true rfl) (Nat.le_of_ble_eq_true rfl)) sh_80 fl_8_67 rfl dX8_scanDigit_1 ?_
  refine v_if_gt (pc := 4) (tgt := 26) hX dX8_scanDigit_4 (by decide) (fun h1 => ?_) (fun h1 => ?_)
  · have h := if_t h h1
    refine v_aload_n (pc := 26) 0 hX dX8_scanDigit_26 rfl ?_
    refine v_iload_n (pc := 27) 1 hX dX8_scanDigit_27 rfl ?_
    refine v_iconst (pc := 28) hX dX8_scanDigit_28 ic_1 ?_
    obtain ⟨M3, h2, h⟩ := b1_e h
    refine v_callV (pc := 29) [.int w1, .int 1] none M3 hX cv_8_64 (c_X8_setFault (sub_cs hcs (Nat.le_of_ble_eq_true rfl) (Nat.le_of_ble_eq_true rfl)) M w1 1 M3 h2) (hcs 80 (Nat.le_of_ble_eq_true rfl) (Nat.le_of_ble_eq_true rfl)) sh_80 rfl rfl rfl ⟨Nat.le_of_ble_eq_true rfl, Nat.le_of_ble_eq_true rfl⟩ (Nat.le_of_ble_eq_true rfl) dX8_scanDigit_29 ?_
    show VV X 3 ad cs M3 32 [(0, .ref (ad 80)), (1, .int w1), (2, .int w2)] []
    refine v_goto (pc := 32) (tgt := 58) hX dX8_scanDigit_32 (by decide) ?_
    obtain rfl := Option.some.inj h
    exact v_vret (pc := 58) hX hR dX8_scanDigit_58
  · have h := if_f h h1
    refine v_aload_n (pc := 7) 0 hX dX8_scanDigit_7 rfl ?_
    refine v_getI (pc := 8) hX (hcs 80 (Nat.le_of_ble_eq_true rfl) (Nat.le_of_ble_eq_true rfl)) sh_80 fl_8_70 rfl dX8_scanDigit_8 ?_
    refine v_iconst (pc := 11) hX dX8_scanDigit_11 ic_2 ?_
    refine v_icmp_ge (pc := 12) (tgt := 26) hX dX8_scanDigit_12 (by decide) (fun h4 => ?_) (fun h4 => ?_)
    · have h := if_t h h4
      refine v_aload_n (pc := 26) 0 hX dX8_scanDigit_26 rfl ?_
      refine v_iload_n (pc := 27) 1 hX dX8_scanDigit_27 rfl ?_
      refine v_iconst (pc := 28) hX dX8_scanDigit_28 ic_1 ?_
      obtain ⟨M6, h5, h⟩ := b1_e h
      refine v_callV (pc := 29) [.int w1, .int 1] none M6 hX cv_8_64 (c_X8_setFault (sub_cs hcs (Nat.le_of_ble_eq_true rfl) (Nat.le_of_ble_eq_true rfl)) M w1 1 M6 h5) (hcs 80 (Nat.le_of_ble_eq_true rfl) (Nat.le_of_ble_eq_true rfl)) sh_80 rfl rfl rfl ⟨Nat.le_of_ble_eq_true rfl, Nat.le_of_ble_eq_true rfl⟩ (Nat.le_of_ble_eq_true rfl) dX8_scanDigit_29 ?_
      show VV X 3 ad cs M6 32 [(0, .ref (ad 80)), (1, .int w1), (2, .int w2)] []
      refine v_goto (pc := 32) (tgt := 58) hX dX8_scanDigit_32 (by decide) ?_
      obtain rfl := Option.some.inj h
      exact v_vret (pc := 58) hX hR dX8_scanDigit_58
    · have h := if_f h h4
      refine v_aload_n (pc := 15) 0 hX dX8_scanDigit_15 rfl ?_
      refine v_getI (pc := 16) hX (hcs 80 (Nat.le_of_ble_eq_true rfl) (Nat.le_of_ble_eq_true rfl)) sh_80 fl_8_70 rfl dX8_scanDigit_16 ?_
      obtain ⟨k7, ek7, h⟩ := bd_e h
      have K8 : ∀ (_ : Unit), k7 () = some q → VV X 3 ad cs M 35 [(0, .ref (ad 80)), (2, .int w2)] [] := by
        intro _ h
        subst ek7
        refine v_aload_n (pc := 35) 0 hX dX8_scanDigit_35 rfl ?_
        refine v_dup (pc := 36) hX dX8_scanDigit_36 rfl ?_
        refine v_getI (pc := 37) hX (hcs 80 (Nat.le_of_ble_eq_true rfl) (Nat.le_of_ble_eq_true rfl)) sh_80 fl_8_70 rfl dX8_scanDigit_37 ?_
        refine v_iconst (pc := 40) hX dX8_scanDigit_40 ic_1 ?_
        refine v_iadd (pc := 41) hX dX8_scanDigit_41 ?_
        obtain ⟨M9, eM9, h⟩ := bd_e h
        refine v_putI (pc := 42) hX (hcs 80 (Nat.le_of_ble_eq_true rfl) (Nat.le_of_ble_eq_true rfl)) sh_80 pl_8_70 rfl dX8_scanDigit_42 eM9 ?_
        refine v_aload_n (pc := 45) 0 hX dX8_scanDigit_45 rfl ?_
        refine v_bipush (pc := 46) hX dX8_scanDigit_46 bp_10 ?_
        refine v_aload_n (pc := 48) 0 hX dX8_scanDigit_48 rfl ?_
        refine v_getI (pc := 49) hX (hcs 80 (Nat.le_of_ble_eq_true rfl) (Nat.le_of_ble_eq_true rfl)) sh_80 fl_8_73 rfl dX8_scanDigit_49 ?_
        refine v_imul (pc := 52) hX dX8_scanDigit_52 ?_
        refine v_iload_n (pc := 53) 1 hX dX8_scanDigit_53 rfl ?_
        refine v_iadd (pc := 54) hX dX8_scanDigit_54 ?_
        obtain ⟨M10, eM10, h⟩ := bd_e h
        refine v_putI (pc := 55) hX (hcs 80 (Nat.le_of_ble_eq_true rfl) (Nat.le_of_ble_eq_true rfl)) sh_80 pl_8_73 rfl dX8_scanDigit_55 eM10 ?_
        obtain rfl := Option.some.inj h
        exact v_vret (pc := 58) hX hR dX8_scanDigit_58
      refine v_if_ne (pc := 19) (tgt := 35) hX dX8_scanDigit_19 (by decide) (fun h11 => ?_) (fun h11 => ?_)
      · have h := if_f h h11
        exact v_sub [0, 2] rfl (K8 () h)
      · have h := if_t h h11
        refine v_iload_n (pc := 22) 2 hX dX8_scanDigit_22 rfl ?_
        refine v_if_ne (pc := 23) (tgt := 35) hX dX8_scanDigit_23 (by decide) (fun h12 => ?_) (fun h12 => ?_)
        · have h := if_f h h12
          exact v_sub [0, 2] rfl (K8 () h)
        · have h := if_t h h12
          refine v_aload_n (pc := 26) 0 hX dX8_scanDigit_26 rfl ?_
          refine v_iload_n (pc := 27) 1 hX dX8_scanDigit_27 rfl ?_
          refine v_iconst (pc := 28) hX dX8_scanDigit_28 ic_1 ?_
          obtain ⟨M14, h13, h⟩ := b1_e h
          refine v_callV (pc := 29) [.int w1, .int 1] none M14 hX cv_8_64 (c_X8_setFault (sub_cs hcs (Nat.le_of_ble_eq_true rfl) (Nat.le_of_ble_eq_true rfl)) M w1 1 M14 h13) (hcs 80 (Nat.le_of_ble_eq_true rfl) (Nat.le_of_ble_eq_true rfl)) sh_80 rfl rfl rfl ⟨Nat.le_of_ble_eq_true rfl, Nat.le_of_ble_eq_true rfl⟩ (Nat.le_of_ble_eq_true rfl) dX8_scanDigit_29 ?_
          show VV X 3 ad cs M14 32 [(0, .ref (ad 80)), (1, .int w1), (2, .int w2)] []
          refine v_goto (pc := 32) (tgt := 58) hX dX8_scanDigit_32 (by decide) ?_
          obtain rfl := Option.some.inj h
          exact v_vret (pc := 58) hX hR dX8_scanDigit_58
set_option maxHeartbeats 4000000 in
set_option maxRecDepth 100000 in
theorem c_X8_scanLetter {ad : Nat → Nat} {cs : List Nat} (hcs : ∀ k, 80 ≤ k → k < 86 → k ∈ cs) (M : Mm) (w1 : Int32) (w2 : Int32) (w3 : Int32) (q : Mm) (h : fX8_scanLetter M w1 w2 w3 = some q) : CT ad cs yX8_scanLetter cX8_scanLetter 4 none 1 22 [.ref (ad 80), .int w1, .int w2, .int w3] M none q := by
  refine CT.of RX8 (by decide +kernel) rfl (Nat.le_of_ble_eq_true rfl) (fun X hX hR => ?_)
  unfold fX8_scanLetter at h
  show VV X 4 ad cs M 0 [(0, .ref (ad 80)), (1, .int w1), (2, .int w2), (3, .int w3)] []
  refine v_iload_n (pc := 0) 2 hX dX8_scanLetter_0 rfl ?_
  refine v_iload_n (pc := 1) 3 hX dX8_scanLetter_1 rfl ?_
  refine v_icmp_lt (pc := 2) (tgt := 14) hX dX8_scanLetter_2 (by decide) (fun h1 => ?_) (fun h1 => ?_)
  · have h := if_t h h1
    refine v_aload_n (pc := 14) 0 hX dX8_scanLetter_14 rfl ?_
    refine v_getI (pc := 15) hX (hcs 80 (Nat.le_of_ble_eq_true rfl) (Nat.le_of_ble_eq_true rfl)) sh_80 fl_8_67 rfl dX8_scanLetter_15 ?_
    refine v_iconst (pc := 18) hX dX8_scanLetter_18 ic_4 ?_
    refine v_icmp_lt (pc := 19) (tgt := 31) hX dX8_scanLetter_19 (by decide) (fun h2 => ?_) (fun h2 => ?_)
    · have h := if_t h h2
      refine v_aload_n (pc := 31) 0 hX dX8_scanLetter_31 rfl ?_
      refine v_dup (pc := 32) hX dX8_scanLetter_32 rfl ?_
      refine v_getI (pc := 33) hX (hcs 80 (Nat.le_of_ble_eq_true rfl) (Nat.le_of_ble_eq_true rfl)) sh_80 fl_8_67 rfl dX8_scanLetter_33 ?_
      refine v_iconst (pc := 36) hX dX8_scanLetter_36 ic_1 ?_
      refine v_iadd (pc := 37) hX dX8_scanLetter_37 ?_
      obtain ⟨M3, eM3, h⟩ := bd_e h
      refine v_putI (pc := 38) hX (hcs 80 (Nat.le_of_ble_eq_true rfl) (Nat.le_of_ble_eq_true rfl)) sh_80 pl_8_67 rfl dX8_scanLetter_38 eM3 ?_
      refine v_aload_n (pc := 41) 0 hX dX8_scanLetter_41 rfl ?_
      refine v_getR (pc := 42) (t := 85) hX (hcs 80 (Nat.le_of_ble_eq_true rfl) (Nat.le_of_ble_eq_true rfl)) sh_80 fl_8_22 rfl dX8_scanLetter_42 ?_
      refine v_iload_n (pc := 45) 2 hX dX8_scanLetter_45 rfl ?_
      refine v_dup2 (pc := 46) hX dX8_scanLetter_46 rfl rfl ?_
      obtain ⟨g4, h⟩ := gd_e h
      refine v_iald (pc := 47) hX (hcs 85 (Nat.le_of_ble_eq_true rfl) (Nat.le_of_ble_eq_true rfl)) sh_85 g4 rfl dX8_scanLetter_47 ?_
      refine v_iconst (pc := 48) hX dX8_scanLetter_48 ic_1 ?_
      refine v_iadd (pc := 49) hX dX8_scanLetter_49 ?_
      obtain ⟨M5, eM5, h⟩ := bd_e h
      refine v_iast (pc := 50) hX (hcs 85 (Nat.le_of_ble_eq_true rfl) (Nat.le_of_ble_eq_true rfl)) sh_85 g4 rfl dX8_scanLetter_50 eM5 ?_
      obtain rfl := Option.some.inj h
      exact v_vret (pc := 51) hX hR dX8_scanLetter_51
    · have h := if_f h h2
      refine v_aload_n (pc := 22) 0 hX dX8_scanLetter_22 rfl ?_
      refine v_iload_n (pc := 23) 1 hX dX8_scanLetter_23 rfl ?_
      refine v_iconst (pc := 24) hX dX8_scanLetter_24 ic_3 ?_
      obtain ⟨M7, h6, h⟩ := b1_e h
      refine v_callV (pc := 25) [.int w1, .int 3] none M7 hX cv_8_64 (c_X8_setFault (sub_cs hcs (Nat.le_of_ble_eq_true rfl) (Nat.le_of_ble_eq_true rfl)) M w1 3 M7 h6) (hcs 80 (Nat.le_of_ble_eq_true rfl) (Nat.le_of_ble_eq_true rfl)) sh_80 rfl rfl rfl ⟨Nat.le_of_ble_eq_true rfl, Nat.le_of_ble_eq_true rfl⟩ (Nat.le_of_ble_eq_true rfl) dX8_scanLetter_25 ?_
      show VV X 4 ad cs M7 28 [(0, .ref (ad 80)), (1, .int w1), (2, .int w2), (3, .int w3)] []
      refine v_goto (pc := 28) (tgt := 51) hX dX8_scanLetter_28 (by decide) ?_
      obtain rfl := Option.some.inj h
      exact v_vret (pc := 51) hX hR dX8_scanLetter_51
  · have h := if_f h h1
    refine v_aload_n (pc := 5) 0 hX dX8_scanLetter_5 rfl ?_
    refine v_iload_n (pc := 6) 1 hX dX8_scanLetter_6 rfl ?_
    refine v_iconst (pc := 7) hX dX8_scanLetter_7 ic_2 ?_
    obtain ⟨M9, h8, h⟩ := b1_e h
    refine v_callV (pc := 8) [.int w1, .int 2] none M9 hX cv_8_64 (c_X8_setFault (sub_cs hcs (Nat.le_of_ble_eq_true rfl) (Nat.le_of_ble_eq_true rfl)) M w1 2 M9 h8) (hcs 80 (Nat.le_of_ble_eq_true rfl) (Nat.le_of_ble_eq_true rfl)) sh_80 rfl rfl rfl ⟨Nat.le_of_ble_eq_true rfl, Nat.le_of_ble_eq_true rfl⟩ (Nat.le_of_ble_eq_true rfl) dX8_scanLetter_8 ?_
    show VV X 4 ad cs M9 11 [(0, .ref (ad 80)), (1, .int w1), (2, .int w2), (3, .int w3)] []
    refine v_goto (pc := 11) (tgt := 51) hX dX8_scanLetter_11 (by decide) ?_
    obtain rfl := Option.some.inj h
    exact v_vret (pc := 51) hX hR dX8_scanLetter_51
set_option maxHeartbeats 4000000 in
set_option maxRecDepth 100000 in
theorem c_X8_scanCharacter {ad : Nat → Nat} {cs : List Nat} (hcs : ∀ k, 80 ≤ k → k < 86 → k ∈ cs) (M : Mm) (w1 : Int32) (w2 : Int32) (w3 : Int32) (q : Mm) (h : fX8_scanCharacter M w1 w2 w3 = some q) : CT ad cs yX8_scanCharacter cX8_scanCharacter 4 none 3 67 [.ref (ad 80), .int w1, .int w2, .int w3] M none q := by
  refine CT.of RX8 (by decide +kernel) rfl (Nat.le_of_ble_eq_true rfl) (fun X hX hR => ?_)
  unfold fX8_scanCharacter at h
  show VV X 4 ad cs M 0 [(0, .ref (ad 80)), (1, .int w1), (2, .int w2), (3, .int w3)] []
  refine v_iload_n (pc := 0) 2 hX dX8_scanCharacter_0 rfl ?_
  refine v_bipush (pc := 1) hX dX8_scanCharacter_1 bp_120 ?_
  refine v_bipush (pc := 3) hX dX8_scanCharacter_3 bp_122 ?_
  obtain ⟨x2, h1, h⟩ := b1_e h
  refine v_callN (pc := 5) [.int w2, .int 120, .int 122] (some (.int x2)) M hX cv_8_49 (c_X10_within M w2 120 122 x2 h1) rfl rfl ⟨Nat.le_of_ble_eq_true rfl, Nat.le_of_ble_eq_true rfl⟩ (Nat.le_of_ble_eq_true rfl) dX8_scanCharacter_5 ?_
  show VV X 4 ad cs M 8 [(0, .ref (ad 80)), (1, .int w1), (2, .int w2), (3, .int w3)] [.int x2]
  refine v_if_eq (pc := 8) (tgt := 24) hX dX8_scanCharacter_8 (by decide) (fun h3 => ?_) (fun h3 => ?_)
  · have h := if_t h h3
    refine v_iload_n (pc := 24) 2 hX dX8_scanCharacter_24 rfl ?_
    refine v_bipush (pc := 25) hX dX8_scanCharacter_25 bp_48 ?_
    refine v_bipush (pc := 27) hX dX8_scanCharacter_27 bp_57 ?_
    obtain ⟨x5, h4, h⟩ := b1_e h
    refine v_callN (pc := 29) [.int w2, .int 48, .int 57] (some (.int x5)) M hX cv_8_49 (c_X10_within M w2 48 57 x5 h4) rfl rfl ⟨Nat.le_of_ble_eq_true rfl, Nat.le_of_ble_eq_true rfl⟩ (Nat.le_of_ble_eq_true rfl) dX8_scanCharacter_29 ?_
    show VV X 4 ad cs M 32 [(0, .ref (ad 80)), (1, .int w1), (2, .int w2), (3, .int w3)] [.int x5]
    refine v_if_eq (pc := 32) (tgt := 47) hX dX8_scanCharacter_32 (by decide) (fun h6 => ?_) (fun h6 => ?_)
    · have h := if_t h h6
      refine v_iload_n (pc := 47) 2 hX dX8_scanCharacter_47 rfl ?_
      refine v_bipush (pc := 48) hX dX8_scanCharacter_48 bp_43 ?_
      obtain ⟨k7, ek7, h⟩ := bd_e h
      have K8 : ∀ (_ : Unit), k7 () = some q → VV X 4 ad cs M 59 [(0, .ref (ad 80)), (1, .int w1), (2, .int w2)] [] := by
        intro _ h
        subst ek7
        refine v_aload_n (pc := 59) 0 hX dX8_scanCharacter_59 rfl ?_
        refine v_iload_n (pc := 60) 1 hX dX8_scanCharacter_60 rfl ?_
        refine v_iload_n (pc := 61) 2 hX dX8_scanCharacter_61 rfl ?_
        refine v_bipush (pc := 62) hX dX8_scanCharacter_62 bp_45 ?_
        refine v_icmp_ne (pc := 64) (tgt := 71) hX dX8_scanCharacter_64 (by decide) (fun h9 => ?_) (fun h9 => ?_)
        · have h := if_f h h9
          refine v_iconst (pc := 71) hX dX8_scanCharacter_71 ic_0 ?_
          obtain ⟨M11, h10, h⟩ := b1_e h
          refine v_callV (pc := 72) [.int w1, .int 0] none M11 hX cv_8_60 (c_X8_scanSign (sub_cs hcs (Nat.le_of_ble_eq_true rfl) (Nat.le_of_ble_eq_true rfl)) M w1 0 M11 h10) (hcs 80 (Nat.le_of_ble_eq_true rfl) (Nat.le_of_ble_eq_true rfl)) sh_80 rfl rfl rfl ⟨Nat.le_of_ble_eq_true rfl, Nat.le_of_ble_eq_true rfl⟩ (Nat.le_of_ble_eq_true rfl) dX8_scanCharacter_72 ?_
          show VV X 4 ad cs M11 75 [(0, .ref (ad 80)), (1, .int w1), (2, .int w2)] []
          refine v_goto (pc := 75) (tgt := 84) hX dX8_scanCharacter_75 (by decide) ?_
          obtain rfl := Option.some.inj h
          exact v_vret (pc := 84) hX hR dX8_scanCharacter_84
        · have h := if_t h h9
          refine v_iconst (pc := 67) hX dX8_scanCharacter_67 ic_1 ?_
          refine v_goto (pc := 68) (tgt := 72) hX dX8_scanCharacter_68 (by decide) ?_
          obtain ⟨M13, h12, h⟩ := b1_e h
          refine v_callV (pc := 72) [.int w1, .int 1] none M13 hX cv_8_60 (c_X8_scanSign (sub_cs hcs (Nat.le_of_ble_eq_true rfl) (Nat.le_of_ble_eq_true rfl)) M w1 1 M13 h12) (hcs 80 (Nat.le_of_ble_eq_true rfl) (Nat.le_of_ble_eq_true rfl)) sh_80 rfl rfl rfl ⟨Nat.le_of_ble_eq_true rfl, Nat.le_of_ble_eq_true rfl⟩ (Nat.le_of_ble_eq_true rfl) dX8_scanCharacter_72 ?_
          show VV X 4 ad cs M13 75 [(0, .ref (ad 80)), (1, .int w1), (2, .int w2)] []
          refine v_goto (pc := 75) (tgt := 84) hX dX8_scanCharacter_75 (by decide) ?_
          obtain rfl := Option.some.inj h
          exact v_vret (pc := 84) hX hR dX8_scanCharacter_84
      refine v_icmp_eq (pc := 50) (tgt := 59) hX dX8_scanCharacter_50 (by decide) (fun h14 => ?_) (fun h14 => ?_)
      · have h := if_t h h14
        exact v_sub [0, 1, 2] rfl (K8 () h)
      · have h := if_f h h14
        refine v_iload_n (pc := 53) 2 hX dX8_scanCharacter_53 rfl ?_
        refine v_bipush (pc := 54) hX dX8_scanCharacter_54 bp_45 ?_
        refine v_icmp_ne (pc := 56) (tgt := 78) hX dX8_scanCharacter_56 (by decide) (fun h15 => ?_) (fun h15 => ?_)
        · have h := if_f h h15
          refine v_aload_n (pc := 78) 0 hX dX8_scanCharacter_78 rfl ?_
          refine v_iload_n (pc := 79) 1 hX dX8_scanCharacter_79 rfl ?_
          refine v_iconst (pc := 80) hX dX8_scanCharacter_80 ic_1 ?_
          obtain ⟨M17, h16, h⟩ := b1_e h
          refine v_callV (pc := 81) [.int w1, .int 1] none M17 hX cv_8_64 (c_X8_setFault (sub_cs hcs (Nat.le_of_ble_eq_true rfl) (Nat.le_of_ble_eq_true rfl)) M w1 1 M17 h16) (hcs 80 (Nat.le_of_ble_eq_true rfl) (Nat.le_of_ble_eq_true rfl)) sh_80 rfl rfl rfl ⟨Nat.le_of_ble_eq_true rfl, Nat.le_of_ble_eq_true rfl⟩ (Nat.le_of_ble_eq_true rfl) dX8_scanCharacter_81 ?_
          show VV X 4 ad cs M17 84 [(0, .ref (ad 80)), (1, .int w1), (2, .int w2), (3, .int w3)] []
          obtain rfl := Option.some.inj h
          exact v_vret (pc := 84) hX hR dX8_scanCharacter_84
        · have h := if_t h h15
          exact v_sub [0, 1, 2] rfl (K8 () h)
    · have h := if_f h h6
      refine v_aload_n (pc := 35) 0 hX dX8_scanCharacter_35 rfl ?_
      refine v_iload_n (pc := 36) 1 hX dX8_scanCharacter_36 rfl ?_
      refine v_iload_n (pc := 37) 2 hX dX8_scanCharacter_37 rfl ?_
      refine v_bipush (pc := 38) hX dX8_scanCharacter_38 bp_48 ?_
      refine v_isub (pc := 40) hX dX8_scanCharacter_40 ?_
      obtain ⟨M19, h18, h⟩ := b1_e h
      refine v_callV (pc := 41) [.int w1, .int (w2 - 48)] none M19 hX cv_8_56 (c_X8_scanDigit (sub_cs hcs (Nat.le_of_ble_eq_true rfl) (Nat.le_of_ble_eq_true rfl)) M w1 (w2 - 48) M19 h18) (hcs 80 (Nat.le_of_ble_eq_true rfl) (Nat.le_of_ble_eq_true rfl)) sh_80 rfl rfl rfl ⟨Nat.le_of_ble_eq_true rfl, Nat.le_of_ble_eq_true rfl⟩ (Nat.le_of_ble_eq_true rfl) dX8_scanCharacter_41 ?_
      show VV X 4 ad cs M19 44 [(0, .ref (ad 80)), (1, .int w1), (2, .int w2), (3, .int w3)] []
      refine v_goto (pc := 44) (tgt := 84) hX dX8_scanCharacter_44 (by decide) ?_
      obtain rfl := Option.some.inj h
      exact v_vret (pc := 84) hX hR dX8_scanCharacter_84
  · have h := if_f h h3
    refine v_aload_n (pc := 11) 0 hX dX8_scanCharacter_11 rfl ?_
    refine v_iload_n (pc := 12) 1 hX dX8_scanCharacter_12 rfl ?_
    refine v_iload_n (pc := 13) 2 hX dX8_scanCharacter_13 rfl ?_
    refine v_bipush (pc := 14) hX dX8_scanCharacter_14 bp_120 ?_
    refine v_isub (pc := 16) hX dX8_scanCharacter_16 ?_
    refine v_iload_n (pc := 17) 3 hX dX8_scanCharacter_17 rfl ?_
    obtain ⟨M21, h20, h⟩ := b1_e h
    refine v_callV (pc := 18) [.int w1, .int (w2 - 120), .int w3] none M21 hX cv_8_53 (c_X8_scanLetter (sub_cs hcs (Nat.le_of_ble_eq_true rfl) (Nat.le_of_ble_eq_true rfl)) M w1 (w2 - 120) w3 M21 h20) (hcs 80 (Nat.le_of_ble_eq_true rfl) (Nat.le_of_ble_eq_true rfl)) sh_80 rfl rfl rfl ⟨Nat.le_of_ble_eq_true rfl, Nat.le_of_ble_eq_true rfl⟩ (Nat.le_of_ble_eq_true rfl) dX8_scanCharacter_18 ?_
    show VV X 4 ad cs M21 21 [(0, .ref (ad 80)), (1, .int w1), (2, .int w2), (3, .int w3)] []
    refine v_goto (pc := 21) (tgt := 84) hX dX8_scanCharacter_21 (by decide) ?_
    obtain rfl := Option.some.inj h
    exact v_vret (pc := 84) hX hR dX8_scanCharacter_84
set_option maxHeartbeats 4000000 in
set_option maxRecDepth 100000 in
theorem c_X8_isFunction {ad : Nat → Nat} {cs : List Nat} (hcs : ∀ k, 80 ≤ k → k < 86 → k ∈ cs) (M : Mm) (w1 : Int32) (q : Int32 × Mm) (h : fX8_isFunction M w1 = some q) : CT ad cs yX8_isFunction cX8_isFunction 3 (some .boolean) 4 90 [.ref (ad 80), .int w1] M (some (.int q.1)) q.2 := by
  refine CT.of RX8 (by decide +kernel) rfl (Nat.le_of_ble_eq_true rfl) (fun X hX hR => ?_)
  unfold fX8_isFunction at h
  show VV X 3 ad cs M 0 [(0, .ref (ad 80)), (1, .int w1)] []
  refine v_aload_n (pc := 0) 0 hX dX8_isFunction_0 rfl ?_
  refine v_getR (pc := 1) (t := 82) hX (hcs 80 (Nat.le_of_ble_eq_true rfl) (Nat.le_of_ble_eq_true rfl)) sh_80 fl_8_18 rfl dX8_isFunction_1 ?_
  refine v_iconst (pc := 4) hX dX8_isFunction_4 ic_0 ?_
  obtain ⟨M1, eM1, h⟩ := bd_e h
  refine v_putI (pc := 5) hX (hcs 82 (Nat.le_of_ble_eq_true rfl) (Nat.le_of_ble_eq_true rfl)) sh_82 pl_8_29 rfl dX8_isFunction_5 eM1 ?_
  refine v_aload_n (pc := 8) 0 hX dX8_isFunction_8 rfl ?_
  refine v_iconst (pc := 9) hX dX8_isFunction_9 ic_0 ?_
  obtain ⟨M2, eM2, h⟩ := bd_e h
  refine v_putI (pc := 10) hX (hcs 80 (Nat.le_of_ble_eq_true rfl) (Nat.le_of_ble_eq_true rfl)) sh_80 pl_8_32 rfl dX8_isFunction_10 eM2 ?_
  refine v_aload_n (pc := 13) 0 hX dX8_isFunction_13 rfl ?_
  refine v_iconst (pc := 14) hX dX8_isFunction_14 ic_0 ?_
  obtain ⟨M3, eM3, h⟩ := bd_e h
  refine v_putI (pc := 15) hX (hcs 80 (Nat.le_of_ble_eq_true rfl) (Nat.le_of_ble_eq_true rfl)) sh_80 pl_8_35 rfl dX8_isFunction_15 eM3 ?_
  refine v_aload_n (pc := 18) 0 hX dX8_isFunction_18 rfl ?_
  refine v_iconst (pc := 19) hX dX8_isFunction_19 ic_0 ?_
  obtain ⟨M5, h4, h⟩ := b1_e h
  refine v_callV (pc := 20) [.int 0] none M5 hX cv_8_38 (c_X8_beginTerm (sub_cs hcs (Nat.le_of_ble_eq_true rfl) (Nat.le_of_ble_eq_true rfl)) M3 0 M5 h4) (hcs 80 (Nat.le_of_ble_eq_true rfl) (Nat.le_of_ble_eq_true rfl)) sh_80 rfl rfl rfl ⟨Nat.le_of_ble_eq_true rfl, Nat.le_of_ble_eq_true rfl⟩ (Nat.le_of_ble_eq_true rfl) dX8_isFunction_20 ?_
  show VV X 3 ad cs M5 23 [(0, .ref (ad 80)), (1, .int w1)] []
  refine v_iconst (pc := 23) hX dX8_isFunction_23 ic_0 ?_
  refine v_istore_n (pc := 24) [(2, .int 0), (0, .ref (ad 80)), (1, .int w1)] hX dX8_isFunction_24 (by decide) rfl ?_
  have L14 := v_itr (fX8_isFunction_L25 w1) (fun z => VV X 3 ad cs z.2 25 [(0, .ref (ad 80)), (1, .int w1), (2, .int z.1)] []) (fun z => VV X 3 ad cs z 58 [(0, .ref (ad 80))] []) (by
    rintro ⟨x6, M7⟩ q h hK
    unfold fX8_isFunction_L25 at h
    have h := u2_b h
    show VV X 3 ad cs M7 25 [(0, .ref (ad 80)), (1, .int w1), (2, .int x6)] []
    refine v_iload_n (pc := 25) 2 hX dX8_isFunction_25 rfl ?_
    refine v_aload_n (pc := 26) 0 hX dX8_isFunction_26 rfl ?_
    refine v_getI (pc := 27) hX (hcs 80 (Nat.le_of_ble_eq_true rfl) (Nat.le_of_ble_eq_true rfl)) sh_80 fl_8_25 rfl dX8_isFunction_27 ?_
    refine v_icmp_ge (pc := 30) (tgt := 58) hX dX8_isFunction_30 (by decide) (fun h8 => ?_) (fun h8 => ?_)
    · have h := if_t h h8
      obtain rfl := Option.some.inj h
      exact v_sub [0] rfl hK
    · have h := if_f h h8
      refine v_aload_n (pc := 33) 0 hX dX8_isFunction_33 rfl ?_
      refine v_getI (pc := 34) hX (hcs 80 (Nat.le_of_ble_eq_true rfl) (Nat.le_of_ble_eq_true rfl)) sh_80 fl_8_35 rfl dX8_isFunction_34 ?_
      refine v_if_ne (pc := 37) (tgt := 58) hX dX8_isFunction_37 (by decide) (fun h9 => ?_) (fun h9 => ?_)
      · have h := if_f h h9
        obtain rfl := Option.some.inj h
        exact v_sub [0] rfl hK
      · have h := if_t h h9
        refine v_aload_n (pc := 40) 0 hX dX8_isFunction_40 rfl ?_
        refine v_iload_n (pc := 41) 2 hX dX8_isFunction_41 rfl ?_
        refine v_aload_n (pc := 42) 0 hX dX8_isFunction_42 rfl ?_
        refine v_getR (pc := 43) (t := 81) hX (hcs 80 (Nat.le_of_ble_eq_true rfl) (Nat.le_of_ble_eq_true rfl)) sh_80 fl_8_9 rfl dX8_isFunction_43 ?_
        refine v_iload_n (pc := 46) 2 hX dX8_isFunction_46 rfl ?_
        obtain ⟨g10, h⟩ := gd_e h
        refine v_iald (pc := 47) hX (hcs 81 (Nat.le_of_ble_eq_true rfl) (Nat.le_of_ble_eq_true rfl)) sh_81 g10 rfl dX8_isFunction_47 ?_
        refine v_iload_n (pc := 48) 1 hX dX8_isFunction_48 rfl ?_
        obtain ⟨M12, h11, h⟩ := b1_e h
        refine v_callV (pc := 49) [.int x6, .int (M7.1 81 (ix x6)), .int w1] none M12 hX cv_8_42 (c_X8_scanCharacter (sub_cs hcs (Nat.le_of_ble_eq_true rfl) (Nat.le_of_ble_eq_true rfl)) M7 x6 (M7.1 81 (ix x6)) w1 M12 h11) (hcs 80 (Nat.le_of_ble_eq_true rfl) (Nat.le_of_ble_eq_true rfl)) sh_80 rfl rfl rfl ⟨Nat.le_of_ble_eq_true rfl, Nat.le_of_ble_eq_true rfl⟩ (Nat.le_of_ble_eq_true rfl) dX8_isFunction_49 ?_
        show VV X 3 ad cs M12 52 [(0, .ref (ad 80)), (1, .int w1), (2, .int x6)] []
        obtain ⟨x13, ex13, h⟩ := bd_e h
        refine v_iinc (v := x13) (pc := 52) 2 [(2, .int x13), (0, .ref (ad 80)), (1, .int w1)] hX dX8_isFunction_52 rfl (ex13.trans (by rw [ic_1])) (by decide) rfl ?_
        refine v_goto (pc := 55) (tgt := 25) hX dX8_isFunction_55 (by decide) ?_
        obtain rfl := Option.some.inj h
        exact v_sub [1, 2, 0] rfl hK
  )
  obtain ⟨M15, h21, h⟩ := b1_e h
  refine v_sub [1, 2, 0] rfl ?_
  refine L14 1000 _ _ h21 ?_
  show VV X 3 ad cs M15 58 [(0, .ref (ad 80))] []
  refine v_aload_n (pc := 58) 0 hX dX8_isFunction_58 rfl ?_
  refine v_getI (pc := 59) hX (hcs 80 (Nat.le_of_ble_eq_true rfl) (Nat.le_of_ble_eq_true rfl)) sh_80 fl_8_35 rfl dX8_isFunction_59 ?_
  refine v_if_ne (pc := 62) (tgt := 69) hX dX8_isFunction_62 (by decide) (fun h16 => ?_) (fun h16 => ?_)
  · have h := if_f h h16
    refine v_aload_n (pc := 69) 0 hX dX8_isFunction_69 rfl ?_
    refine v_getI (pc := 70) hX (hcs 80 (Nat.le_of_ble_eq_true rfl) (Nat.le_of_ble_eq_true rfl)) sh_80 fl_8_35 rfl dX8_isFunction_70 ?_
    refine v_if_ne (pc := 73) (tgt := 80) hX dX8_isFunction_73 (by decide) (fun h17 => ?_) (fun h17 => ?_)
    · have h := if_f h h17
      refine v_iconst (pc := 80) hX dX8_isFunction_80 ic_0 ?_
      obtain rfl := Option.some.inj h
      exact v_zret (pc := 81) hX hR (Or.inl rfl) dX8_isFunction_81
    · have h := if_t h h17
      refine v_iconst (pc := 76) hX dX8_isFunction_76 ic_1 ?_
      refine v_goto (pc := 77) (tgt := 81) hX dX8_isFunction_77 (by decide) ?_
      obtain rfl := Option.some.inj h
      exact v_zret (pc := 81) hX hR (Or.inr rfl) dX8_isFunction_81
  · have h := if_t h h16
    refine v_aload_n (pc := 65) 0 hX dX8_isFunction_65 rfl ?_
    obtain ⟨M19, h18, h⟩ := b1_e h
    refine v_callV (pc := 66) [] none M19 hX cv_8_46 (c_X8_scanEnd (sub_cs hcs (Nat.le_of_ble_eq_true rfl) (Nat.le_of_ble_eq_true rfl)) M15 M19 h18) (hcs 80 (Nat.le_of_ble_eq_true rfl) (Nat.le_of_ble_eq_true rfl)) sh_80 rfl rfl rfl ⟨Nat.le_of_ble_eq_true rfl, Nat.le_of_ble_eq_true rfl⟩ (Nat.le_of_ble_eq_true rfl) dX8_isFunction_66 ?_
    show VV X 3 ad cs M19 69 [(0, .ref (ad 80))] []
    refine v_aload_n (pc := 69) 0 hX dX8_isFunction_69 rfl ?_
    refine v_getI (pc := 70) hX (hcs 80 (Nat.le_of_ble_eq_true rfl) (Nat.le_of_ble_eq_true rfl)) sh_80 fl_8_35 rfl dX8_isFunction_70 ?_
    refine v_if_ne (pc := 73) (tgt := 80) hX dX8_isFunction_73 (by decide) (fun h20 => ?_) (fun h20 => ?_)
    · have h := if_f h h20
      refine v_iconst (pc := 80) hX dX8_isFunction_80 ic_0 ?_
      obtain rfl := Option.some.inj h
      exact v_zret (pc := 81) hX hR (Or.inl rfl) dX8_isFunction_81
    · have h := if_t h h20
      refine v_iconst (pc := 76) hX dX8_isFunction_76 ic_1 ?_
      refine v_goto (pc := 77) (tgt := 81) hX dX8_isFunction_77 (by decide) ?_
      obtain rfl := Option.some.inj h
      exact v_zret (pc := 81) hX hR (Or.inr rfl) dX8_isFunction_81
set_option maxHeartbeats 4000000 in
set_option maxRecDepth 100000 in
theorem c_X10_fault {ad : Nat → Nat} {cs : List Nat} (hcs : ∀ k, 0 ≤ k → k < 86 → k ∈ cs) (M : Mm) (w1 : Int32) (q : Int32 × Mm) (h : fX10_fault M w1 = some q) : CT ad cs yX10_fault cX10_fault 2 (some .int) 5 112 [.ref (ad 0), .int w1] M (some (.int q.1)) q.2 := by
  refine CT.of RX10 (by decide +kernel) rfl (Nat.le_of_ble_eq_true rfl) (fun X hX hR => ?_)
  unfold fX10_fault at h
  show VV X 2 ad cs M 0 [(0, .ref (ad 0)), (1, .int w1)] []
  refine v_iload_n (pc := 0) 1 hX dX10_fault_0 rfl ?_
  refine v_iconst (pc := 1) hX dX10_fault_1 ic_0 ?_
  refine v_iconst (pc := 2) hX dX10_fault_2 ic_1 ?_
  obtain ⟨x2, h1, h⟩ := b1_e h
  refine v_callS (pc := 3) [.int w1, .int 0, .int 1] (some (.int x2)) M hX cv_10_62 (c_X10_within M w1 0 1 x2 h1) rfl rfl ⟨Nat.le_of_ble_eq_true rfl, Nat.le_of_ble_eq_true rfl⟩ (Nat.le_of_ble_eq_true rfl) dX10_fault_3 ?_
  show VV X 2 ad cs M 6 [(0, .ref (ad 0)), (1, .int w1)] [.int x2]
  refine v_if_ne (pc := 6) (tgt := 12) hX dX10_fault_6 (by decide) (fun h3 => ?_) (fun h3 => ?_)
  · have h := if_f h h3
    refine v_aload_n (pc := 12) 0 hX dX10_fault_12 rfl ?_
    refine v_getR (pc := 13) (t := 80) hX (hcs 0 (Nat.le_of_ble_eq_true rfl) (Nat.le_of_ble_eq_true rfl)) sh_0 fl_10_37 rfl dX10_fault_13 ?_
    refine v_aload_n (pc := 16) 0 hX dX10_fault_16 rfl ?_
    refine v_getR (pc := 17) (t := 1) hX (hcs 0 (Nat.le_of_ble_eq_true rfl) (Nat.le_of_ble_eq_true rfl)) sh_0 fl_10_10 rfl dX10_fault_17 ?_
    refine v_getI (pc := 20) hX (hcs 1 (Nat.le_of_ble_eq_true rfl) (Nat.le_of_ble_eq_true rfl)) sh_1 fl_10_67 rfl dX10_fault_20 ?_
    obtain ⟨x5, M6, h4, h⟩ := b2_e h
    refine v_callV (pc := 23) [.int (M.1 1 0)] (some (.int x5)) M6 hX cv_10_252 (c_X8_isFunction (sub_cs hcs (Nat.le_of_ble_eq_true rfl) (Nat.le_of_ble_eq_true rfl)) M (M.1 1 0) (x5, M6) h4) (hcs 80 (Nat.le_of_ble_eq_true rfl) (Nat.le_of_ble_eq_true rfl)) sh_80 rfl rfl rfl ⟨Nat.le_of_ble_eq_true rfl, Nat.le_of_ble_eq_true rfl⟩ (Nat.le_of_ble_eq_true rfl) dX10_fault_23 ?_
    show VV X 2 ad cs M6 26 [(0, .ref (ad 0)), (1, .int w1)] [.int x5]
    refine v_if_eq (pc := 26) (tgt := 32) hX dX10_fault_26 (by decide) (fun h7 => ?_) (fun h7 => ?_)
    · have h := if_t h h7
      refine v_iload_n (pc := 32) 1 hX dX10_fault_32 rfl ?_
      refine v_if_ne (pc := 33) (tgt := 46) hX dX10_fault_33 (by decide) (fun h8 => ?_) (fun h8 => ?_)
      · have h := if_f h h8
        refine v_aload_n (pc := 46) 0 hX dX10_fault_46 rfl ?_
        refine v_getR (pc := 47) (t := 80) hX (hcs 0 (Nat.le_of_ble_eq_true rfl) (Nat.le_of_ble_eq_true rfl)) sh_0 fl_10_37 rfl dX10_fault_47 ?_
        refine v_getI (pc := 50) hX (hcs 80 (Nat.le_of_ble_eq_true rfl) (Nat.le_of_ble_eq_true rfl)) sh_80 fl_10_258 rfl dX10_fault_50 ?_
        obtain rfl := Option.some.inj h
        exact v_iret (pc := 53) hX hR dX10_fault_53
      · have h := if_t h h8
        refine v_aload_n (pc := 36) 0 hX dX10_fault_36 rfl ?_
        refine v_getR (pc := 37) (t := 80) hX (hcs 0 (Nat.le_of_ble_eq_true rfl) (Nat.le_of_ble_eq_true rfl)) sh_0 fl_10_37 rfl dX10_fault_37 ?_
        refine v_getI (pc := 40) hX (hcs 80 (Nat.le_of_ble_eq_true rfl) (Nat.le_of_ble_eq_true rfl)) sh_80 fl_10_255 rfl dX10_fault_40 ?_
        refine v_goto (pc := 43) (tgt := 53) hX dX10_fault_43 (by decide) ?_
        obtain rfl := Option.some.inj h
        exact v_iret (pc := 53) hX hR dX10_fault_53
    · have h := if_f h h7
      refine v_ldc (pc := 29) hX kc_10_178 dX10_fault_29 ?_
      obtain rfl := Option.some.inj h
      exact v_iret (pc := 31) hX hR dX10_fault_31
  · have h := if_t h h3
    refine v_ldc (pc := 9) hX kc_10_66 dX10_fault_9 ?_
    obtain rfl := Option.some.inj h
    exact v_iret (pc := 11) hX hR dX10_fault_11
set_option maxHeartbeats 4000000 in
set_option maxRecDepth 100000 in
theorem c_X10_read {ad : Nat → Nat} {cs : List Nat} (hcs : ∀ k, 0 ≤ k → k < 86 → k ∈ cs) (M : Mm) (q : Int32 × Mm) (h : fX10_read M = some q) : CT ad cs yX10_read cX10_read 1 (some .int) 5 112 [.ref (ad 0)] M (some (.int q.1)) q.2 := by
  refine CT.of RX10 (by decide +kernel) rfl (Nat.le_of_ble_eq_true rfl) (fun X hX hR => ?_)
  unfold fX10_read at h
  show VV X 1 ad cs M 0 [(0, .ref (ad 0))] []
  refine v_aload_n (pc := 0) 0 hX dX10_read_0 rfl ?_
  refine v_getR (pc := 1) (t := 80) hX (hcs 0 (Nat.le_of_ble_eq_true rfl) (Nat.le_of_ble_eq_true rfl)) sh_0 fl_10_37 rfl dX10_read_1 ?_
  refine v_aload_n (pc := 4) 0 hX dX10_read_4 rfl ?_
  refine v_getR (pc := 5) (t := 1) hX (hcs 0 (Nat.le_of_ble_eq_true rfl) (Nat.le_of_ble_eq_true rfl)) sh_0 fl_10_10 rfl dX10_read_5 ?_
  refine v_getI (pc := 8) hX (hcs 1 (Nat.le_of_ble_eq_true rfl) (Nat.le_of_ble_eq_true rfl)) sh_1 fl_10_67 rfl dX10_read_8 ?_
  obtain ⟨x2, M3, h1, h⟩ := b2_e h
  refine v_callV (pc := 11) [.int (M.1 1 0)] (some (.int x2)) M3 hX cv_10_252 (c_X8_isFunction (sub_cs hcs (Nat.le_of_ble_eq_true rfl) (Nat.le_of_ble_eq_true rfl)) M (M.1 1 0) (x2, M3) h1) (hcs 80 (Nat.le_of_ble_eq_true rfl) (Nat.le_of_ble_eq_true rfl)) sh_80 rfl rfl rfl ⟨Nat.le_of_ble_eq_true rfl, Nat.le_of_ble_eq_true rfl⟩ (Nat.le_of_ble_eq_true rfl) dX10_read_11 ?_
  show VV X 1 ad cs M3 14 [(0, .ref (ad 0))] [.int x2]
  refine v_if_ne (pc := 14) (tgt := 20) hX dX10_read_14 (by decide) (fun h4 => ?_) (fun h4 => ?_)
  · have h := if_f h h4
    refine v_aload_n (pc := 20) 0 hX dX10_read_20 rfl ?_
    refine v_getR (pc := 21) (t := 14) hX (hcs 0 (Nat.le_of_ble_eq_true rfl) (Nat.le_of_ble_eq_true rfl)) sh_0 fl_10_23 rfl dX10_read_21 ?_
    refine v_aload_n (pc := 24) 0 hX dX10_read_24 rfl ?_
    refine v_getR (pc := 25) (t := 1) hX (hcs 0 (Nat.le_of_ble_eq_true rfl) (Nat.le_of_ble_eq_true rfl)) sh_0 fl_10_10 rfl dX10_read_25 ?_
    obtain ⟨M6, h5, h⟩ := b1_e h
    refine v_callV (pc := 28) [.ref (ad 1)] none M6 hX cv_10_71 (c_X2_push (sub_cs hcs (Nat.le_of_ble_eq_true rfl) (Nat.le_of_ble_eq_true rfl)) M3 M6 h5) (hcs 14 (Nat.le_of_ble_eq_true rfl) (Nat.le_of_ble_eq_true rfl)) sh_14 rfl rfl rfl ⟨Nat.le_of_ble_eq_true rfl, Nat.le_of_ble_eq_true rfl⟩ (Nat.le_of_ble_eq_true rfl) dX10_read_28 ?_
    show VV X 1 ad cs M6 31 [(0, .ref (ad 0))] []
    refine v_aload_n (pc := 31) 0 hX dX10_read_31 rfl ?_
    refine v_getR (pc := 32) (t := 1) hX (hcs 0 (Nat.le_of_ble_eq_true rfl) (Nat.le_of_ble_eq_true rfl)) sh_0 fl_10_10 rfl dX10_read_32 ?_
    refine v_getR (pc := 35) (t := 2) hX (hcs 1 (Nat.le_of_ble_eq_true rfl) (Nat.le_of_ble_eq_true rfl)) sh_1 fl_10_79 rfl dX10_read_35 ?_
    refine v_aload_n (pc := 38) 0 hX dX10_read_38 rfl ?_
    refine v_getR (pc := 39) (t := 80) hX (hcs 0 (Nat.le_of_ble_eq_true rfl) (Nat.le_of_ble_eq_true rfl)) sh_0 fl_10_37 rfl dX10_read_39 ?_
    refine v_getR (pc := 42) (t := 82) hX (hcs 80 (Nat.le_of_ble_eq_true rfl) (Nat.le_of_ble_eq_true rfl)) sh_80 fl_10_261 rfl dX10_read_42 ?_
    obtain ⟨M8, h7, h⟩ := b1_e h
    refine v_callV (pc := 45) [.ref (ad 82)] none M8 hX cv_10_264 (c_X7_copyFrom 2 lyat_2 (sub_cs hcs (Nat.le_of_ble_eq_true rfl) (Nat.le_of_ble_eq_true rfl)) 82 lyat_82 (sub_cs hcs (Nat.le_of_ble_eq_true rfl) (Nat.le_of_ble_eq_true rfl)) M6 M8 h7) (hcs 2 (Nat.le_of_ble_eq_true rfl) (Nat.le_of_ble_eq_true rfl)) sh_2 rfl rfl rfl ⟨Nat.le_of_ble_eq_true rfl, Nat.le_of_ble_eq_true rfl⟩ (Nat.le_of_ble_eq_true rfl) dX10_read_45 ?_
    show VV X 1 ad cs M8 48 [(0, .ref (ad 0))] []
    refine v_aload_n (pc := 48) 0 hX dX10_read_48 rfl ?_
    refine v_getR (pc := 49) (t := 1) hX (hcs 0 (Nat.le_of_ble_eq_true rfl) (Nat.le_of_ble_eq_true rfl)) sh_0 fl_10_10 rfl dX10_read_49 ?_
    refine v_getR (pc := 52) (t := 2) hX (hcs 1 (Nat.le_of_ble_eq_true rfl) (Nat.le_of_ble_eq_true rfl)) sh_1 fl_10_79 rfl dX10_read_52 ?_
    refine v_getI (pc := 55) hX (hcs 2 (Nat.le_of_ble_eq_true rfl) (Nat.le_of_ble_eq_true rfl)) sh_2 fl_10_83 rfl dX10_read_55 ?_
    obtain rfl := Option.some.inj h
    exact v_iret (pc := 58) hX hR dX10_read_58
  · have h := if_t h h4
    refine v_ldc (pc := 17) hX kc_10_93 dX10_read_17 ?_
    obtain rfl := Option.some.inj h
    exact v_iret (pc := 19) hX hR dX10_read_19
