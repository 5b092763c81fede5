set_option maxHeartbeats 4000000 in
set_option maxRecDepth 100000 in
theorem c_X10_within {ad : Nat → Nat} {cs : List Nat} (M : Mm) (w0 : Int32) (w1 : Int32) (w2 : Int32) (q : Int32) (h : fX10_within w0 w1 w2 = some q) : CT ad cs yX10_within cX10_within 3 (some .boolean) 0 0 [.int w0, .int w1, .int w2] M (some (.int q)) M := by
  refine CT.of RX10 (by decide +kernel) rfl (Nat.le_of_ble_eq_true rfl) (fun X hX hR => ?_)
  unfold fX10_within at h
  show VV X 3 ad cs M 0 [(0, .int w0), (1, .int w1), (2, .int w2)] []
  refine v_iload_n (pc := 0) 1 hX dX10_within_0 rfl ?_
  refine v_iload_n (pc := 1) 0 hX dX10_within_1 rfl ?_
  refine v_icmp_gt (pc := 2) (tgt := 14) hX dX10_within_2 (by decide) (fun h1 => ?_) (fun h1 => ?_)
  · have h := if_t h h1
    refine v_iconst (pc := 14) hX dX10_within_14 ic_0 ?_
    obtain rfl := Option.some.inj h
    exact v_zret (pc := 15) hX hR (Or.inl rfl) dX10_within_15
  · have h := if_f h h1
    refine v_iload_n (pc := 5) 0 hX dX10_within_5 rfl ?_
    refine v_iload_n (pc := 6) 2 hX dX10_within_6 rfl ?_
    refine v_icmp_gt (pc := 7) (tgt := 14) hX dX10_within_7 (by decide) (fun h2 => ?_) (fun h2 => ?_)
    · have h := if_t h h2
      refine v_iconst (pc := 14) hX dX10_within_14 ic_0 ?_
      obtain rfl := Option.some.inj h
      exact v_zret (pc := 15) hX hR (Or.inl rfl) dX10_within_15
    · have h := if_f h h2
      refine v_iconst (pc := 10) hX dX10_within_10 ic_1 ?_
      refine v_goto (pc := 11) (tgt := 15) hX dX10_within_11 (by decide) ?_
      obtain rfl := Option.some.inj h
      exact v_zret (pc := 15) hX hR (Or.inr rfl) dX10_within_15
set_option maxHeartbeats 4000000 in
set_option maxRecDepth 100000 in
theorem c_X7_copyFrom {ad : Nat → Nat} {cs : List Nat} (c : Nat) (l_c : ly7 c) (m_c : ∀ k, c ≤ k → k < c + 3 → k ∈ cs) (o : Nat) (l_o : ly7 o) (m_o : ∀ k, o ≤ k → k < o + 3 → k ∈ cs) (M : Mm) (q : Mm) (h : fX7_copyFrom c o M = some q) : CT ad cs yX7_copyFrom cX7_copyFrom 2 none 1 26 [.ref (ad c), .ref (ad o)] M none q := by
  refine CT.of RX7 (by decide +kernel) rfl (Nat.le_of_ble_eq_true rfl) (fun X hX hR => ?_)
  unfold fX7_copyFrom at h
  show VV X 2 ad cs M 0 [(0, .ref (ad c)), (1, .ref (ad o))] []
  refine v_aload_n (pc := 0) 0 hX dX7_copyFrom_0 rfl ?_
  refine v_aload_n (pc := 1) 1 hX dX7_copyFrom_1 rfl ?_
  refine v_getI (pc := 2) hX (m_o o (by omega) (by omega)) l_o.1 fl_7_18 rfl dX7_copyFrom_2 ?_
  obtain ⟨M1, eM1, h⟩ := bd_e h
  refine v_putI (pc := 5) hX (m_c c (by omega) (by omega)) l_c.1 pl_7_18 rfl dX7_copyFrom_5 eM1 ?_
  refine v_aload_n (pc := 8) 1 hX dX7_copyFrom_8 rfl ?_
  refine v_getR (pc := 9) (t := (o + 1)) hX (m_o o (by omega) (by omega)) l_o.1 fl_7_9 rfl dX7_copyFrom_9 ?_
  refine v_iconst (pc := 12) hX dX7_copyFrom_12 ic_0 ?_
  refine v_aload_n (pc := 13) 0 hX dX7_copyFrom_13 rfl ?_
  refine v_getR (pc := 14) (t := (c + 1)) hX (m_c c (by omega) (by omega)) l_c.1 fl_7_9 rfl dX7_copyFrom_14 ?_
  refine v_iconst (pc := 17) hX dX7_copyFrom_17 ic_0 ?_
  refine v_bipush (pc := 18) hX dX7_copyFrom_18 bp_10 ?_
  obtain ⟨M2, eM2, h⟩ := bd_e h
  refine v_copy (pc := 20) hX cm_7_22 (m_o (o + 1) (by omega) (by omega)) (m_c (c + 1) (by omega) (by omega)) l_o.2.1 l_c.2.1 nn_0 nn_0 nn_10 ix_0 ix_0 ix_10 (by decide) (by decide) (Nat.le_of_ble_eq_true rfl) (Nat.le_of_ble_eq_true rfl) dX7_copyFrom_20 eM2 ?_
  refine v_aload_n (pc := 23) 1 hX dX7_copyFrom_23 rfl ?_
  refine v_getR (pc := 24) (t := (o + 2)) hX (m_o o (by omega) (by omega)) l_o.1 fl_7_15 rfl dX7_copyFrom_24 ?_
  refine v_iconst (pc := 27) hX dX7_copyFrom_27 ic_0 ?_
  refine v_aload_n (pc := 28) 0 hX dX7_copyFrom_28 rfl ?_
  refine v_getR (pc := 29) (t := (c + 2)) hX (m_c c (by omega) (by omega)) l_c.1 fl_7_15 rfl dX7_copyFrom_29 ?_
  refine v_iconst (pc := 32) hX dX7_copyFrom_32 ic_0 ?_
  refine v_bipush (pc := 33) hX dX7_copyFrom_33 bp_30 ?_
  obtain ⟨M3, eM3, h⟩ := bd_e h
  refine v_copy (pc := 35) hX cm_7_22 (m_o (o + 2) (by omega) (by omega)) (m_c (c + 2) (by omega) (by omega)) l_o.2.2 l_c.2.2 nn_0 nn_0 nn_30 ix_0 ix_0 ix_30 (by decide) (by decide) (Nat.le_of_ble_eq_true rfl) (Nat.le_of_ble_eq_true rfl) dX7_copyFrom_35 eM3 ?_
  obtain rfl := Option.some.inj h
  exact v_vret (pc := 38) hX hR dX7_copyFrom_38
set_option maxHeartbeats 4000000 in
set_option maxRecDepth 100000 in
theorem c_X0_copyFrom {ad : Nat → Nat} {cs : List Nat} (c : Nat) (l_c : ly0 c) (m_c : ∀ k, c ≤ k → k < c + 3 → k ∈ cs) (o : Nat) (l_o : ly0 o) (m_o : ∀ k, o ≤ k → k < o + 3 → k ∈ cs) (M : Mm) (q : Mm) (h : fX0_copyFrom c o M = some q) : CT ad cs yX0_copyFrom cX0_copyFrom 2 none 1 26 [.ref (ad c), .ref (ad o)] M none q := by
  refine CT.of RX0 (by decide +kernel) rfl (Nat.le_of_ble_eq_true rfl) (fun X hX hR => ?_)
  unfold fX0_copyFrom at h
  show VV X 2 ad cs M 0 [(0, .ref (ad c)), (1, .ref (ad o))] []
  refine v_aload_n (pc := 0) 1 hX dX0_copyFrom_0 rfl ?_
  refine v_getR (pc := 1) (t := (o + 1)) hX (m_o o (by omega) (by omega)) l_o.1 fl_0_9 rfl dX0_copyFrom_1 ?_
  refine v_iconst (pc := 4) hX dX0_copyFrom_4 ic_0 ?_
  refine v_aload_n (pc := 5) 0 hX dX0_copyFrom_5 rfl ?_
  refine v_getR (pc := 6) (t := (c + 1)) hX (m_c c (by omega) (by omega)) l_c.1 fl_0_9 rfl dX0_copyFrom_6 ?_
  refine v_iconst (pc := 9) hX dX0_copyFrom_9 ic_0 ?_
  refine v_iconst (pc := 10) hX dX0_copyFrom_10 ic_3 ?_
  obtain ⟨M1, eM1, h⟩ := bd_e h
  refine v_copy (pc := 11) hX cm_0_18 (m_o (o + 1) (by omega) (by omega)) (m_c (c + 1) (by omega) (by omega)) l_o.2.1 l_c.2.1 nn_0 nn_0 nn_3 ix_0 ix_0 ix_3 (by decide) (by decide) (Nat.le_of_ble_eq_true rfl) (Nat.le_of_ble_eq_true rfl) dX0_copyFrom_11 eM1 ?_
  refine v_aload_n (pc := 14) 1 hX dX0_copyFrom_14 rfl ?_
  refine v_getR (pc := 15) (t := (o + 2)) hX (m_o o (by omega) (by omega)) l_o.1 fl_0_15 rfl dX0_copyFrom_15 ?_
  refine v_iconst (pc := 18) hX dX0_copyFrom_18 ic_0 ?_
  refine v_aload_n (pc := 19) 0 hX dX0_copyFrom_19 rfl ?_
  refine v_getR (pc := 20) (t := (c + 2)) hX (m_c c (by omega) (by omega)) l_c.1 fl_0_15 rfl dX0_copyFrom_20 ?_
  refine v_iconst (pc := 23) hX dX0_copyFrom_23 ic_0 ?_
  refine v_iconst (pc := 24) hX dX0_copyFrom_24 ic_3 ?_
  obtain ⟨M2, eM2, h⟩ := bd_e h
  refine v_copy (pc := 25) hX cm_0_18 (m_o (o + 2) (by omega) (by omega)) (m_c (c + 2) (by omega) (by omega)) l_o.2.2 l_c.2.2 nn_0 nn_0 nn_3 ix_0 ix_0 ix_3 (by decide) (by decide) (Nat.le_of_ble_eq_true rfl) (Nat.le_of_ble_eq_true rfl) dX0_copyFrom_25 eM2 ?_
  obtain rfl := Option.some.inj h
  exact v_vret (pc := 28) hX hR dX0_copyFrom_28
set_option maxHeartbeats 4000000 in
set_option maxRecDepth 100000 in
theorem c_X1_copyFrom {ad : Nat → Nat} {cs : List Nat} (c : Nat) (l_c : ly1 c) (m_c : ∀ k, c ≤ k → k < c + 3 → k ∈ cs) (o : Nat) (l_o : ly1 o) (m_o : ∀ k, o ≤ k → k < o + 3 → k ∈ cs) (M : Mm) (q : Mm) (h : fX1_copyFrom c o M = some q) : CT ad cs yX1_copyFrom cX1_copyFrom 2 none 1 26 [.ref (ad c), .ref (ad o)] M none q := by
  refine CT.of RX1 (by decide +kernel) rfl (Nat.le_of_ble_eq_true rfl) (fun X hX hR => ?_)
  unfold fX1_copyFrom at h
  show VV X 2 ad cs M 0 [(0, .ref (ad c)), (1, .ref (ad o))] []
  refine v_aload_n (pc := 0) 0 hX dX1_copyFrom_0 rfl ?_
  refine v_aload_n (pc := 1) 1 hX dX1_copyFrom_1 rfl ?_
  refine v_getI (pc := 2) hX (m_o o (by omega) (by omega)) l_o.1 fl_1_18 rfl dX1_copyFrom_2 ?_
  obtain ⟨M1, eM1, h⟩ := bd_e h
  refine v_putI (pc := 5) hX (m_c c (by omega) (by omega)) l_c.1 pl_1_18 rfl dX1_copyFrom_5 eM1 ?_
  refine v_aload_n (pc := 8) 1 hX dX1_copyFrom_8 rfl ?_
  refine v_getR (pc := 9) (t := (o + 1)) hX (m_o o (by omega) (by omega)) l_o.1 fl_1_9 rfl dX1_copyFrom_9 ?_
  refine v_iconst (pc := 12) hX dX1_copyFrom_12 ic_0 ?_
  refine v_aload_n (pc := 13) 0 hX dX1_copyFrom_13 rfl ?_
  refine v_getR (pc := 14) (t := (c + 1)) hX (m_c c (by omega) (by omega)) l_c.1 fl_1_9 rfl dX1_copyFrom_14 ?_
  refine v_iconst (pc := 17) hX dX1_copyFrom_17 ic_0 ?_
  refine v_bipush (pc := 18) hX dX1_copyFrom_18 bp_24 ?_
  obtain ⟨M2, eM2, h⟩ := bd_e h
  refine v_copy (pc := 20) hX cm_1_30 (m_o (o + 1) (by omega) (by omega)) (m_c (c + 1) (by omega) (by omega)) l_o.2.1 l_c.2.1 nn_0 nn_0 nn_24 ix_0 ix_0 ix_24 (by decide) (by decide) (Nat.le_of_ble_eq_true rfl) (Nat.le_of_ble_eq_true rfl) dX1_copyFrom_20 eM2 ?_
  refine v_aload_n (pc := 23) 1 hX dX1_copyFrom_23 rfl ?_
  refine v_getR (pc := 24) (t := (o + 2)) hX (m_o o (by omega) (by omega)) l_o.1 fl_1_15 rfl dX1_copyFrom_24 ?_
  refine v_iconst (pc := 27) hX dX1_copyFrom_27 ic_0 ?_
  refine v_aload_n (pc := 28) 0 hX dX1_copyFrom_28 rfl ?_
  refine v_getR (pc := 29) (t := (c + 2)) hX (m_c c (by omega) (by omega)) l_c.1 fl_1_15 rfl dX1_copyFrom_29 ?_
  refine v_iconst (pc := 32) hX dX1_copyFrom_32 ic_0 ?_
  refine v_bipush (pc := 33) hX dX1_copyFrom_33 bp_8 ?_
  obtain ⟨M3, eM3, h⟩ := bd_e h
  refine v_copy (pc := 35) hX cm_1_30 (m_o (o + 2) (by omega) (by omega)) (m_c (c + 2) (by omega) (by omega)) l_o.2.2 l_c.2.2 nn_0 nn_0 nn_8 ix_0 ix_0 ix_8 (by decide) (by decide) (Nat.le_of_ble_eq_true rfl) (Nat.le_of_ble_eq_true rfl) dX1_copyFrom_35 eM3 ?_
  obtain rfl := Option.some.inj h
  exact v_vret (pc := 38) hX hR dX1_copyFrom_38
set_option maxHeartbeats 4000000 in
set_option maxRecDepth 100000 in
theorem c_X4_copyFrom {ad : Nat → Nat} {cs : List Nat} (c : Nat) (l_c : ly4 c) (m_c : ∀ k, c ≤ k → k < c + 3 → k ∈ cs) (o : Nat) (l_o : ly4 o) (m_o : ∀ k, o ≤ k → k < o + 3 → k ∈ cs) (M : Mm) (q : Mm) (h : fX4_copyFrom c o M = some q) : CT ad cs yX4_copyFrom cX4_copyFrom 2 none 1 26 [.ref (ad c), .ref (ad o)] M none q := by
  refine CT.of RX4 (by decide +kernel) rfl (Nat.le_of_ble_eq_true rfl) (fun X hX hR => ?_)
  unfold fX4_copyFrom at h
  show VV X 2 ad cs M 0 [(0, .ref (ad c)), (1, .ref (ad o))] []
  refine v_aload_n (pc := 0) 1 hX dX4_copyFrom_0 rfl ?_
  refine v_getR (pc := 1) (t := (o + 1)) hX (m_o o (by omega) (by omega)) l_o.1 fl_4_9 rfl dX4_copyFrom_1 ?_
  refine v_iconst (pc := 4) hX dX4_copyFrom_4 ic_0 ?_
  refine v_aload_n (pc := 5) 0 hX dX4_copyFrom_5 rfl ?_
  refine v_getR (pc := 6) (t := (c + 1)) hX (m_c c (by omega) (by omega)) l_c.1 fl_4_9 rfl dX4_copyFrom_6 ?_
  refine v_iconst (pc := 9) hX dX4_copyFrom_9 ic_0 ?_
  refine v_iconst (pc := 10) hX dX4_copyFrom_10 ic_3 ?_
  obtain ⟨M1, eM1, h⟩ := bd_e h
  refine v_copy (pc := 11) hX cm_4_45 (m_o (o + 1) (by omega) (by omega)) (m_c (c + 1) (by omega) (by omega)) l_o.2.1 l_c.2.1 nn_0 nn_0 nn_3 ix_0 ix_0 ix_3 (by decide) (by decide) (Nat.le_of_ble_eq_true rfl) (Nat.le_of_ble_eq_true rfl) dX4_copyFrom_11 eM1 ?_
  refine v_aload_n (pc := 14) 0 hX dX4_copyFrom_14 rfl ?_
  refine v_aload_n (pc := 15) 1 hX dX4_copyFrom_15 rfl ?_
  refine v_getI (pc := 16) hX (m_o o (by omega) (by omega)) l_o.1 fl_4_22 rfl dX4_copyFrom_16 ?_
  obtain ⟨M2, eM2, h⟩ := bd_e h
  refine v_putI (pc := 19) hX (m_c c (by omega) (by omega)) l_c.1 pl_4_22 rfl dX4_copyFrom_19 eM2 ?_
  refine v_aload_n (pc := 22) 0 hX dX4_copyFrom_22 rfl ?_
  refine v_aload_n (pc := 23) 1 hX dX4_copyFrom_23 rfl ?_
  refine v_getI (pc := 24) hX (m_o o (by omega) (by omega)) l_o.1 fl_4_26 rfl dX4_copyFrom_24 ?_
  obtain ⟨M3, eM3, h⟩ := bd_e h
  refine v_putI (pc := 27) hX (m_c c (by omega) (by omega)) l_c.1 pl_4_26 rfl dX4_copyFrom_27 eM3 ?_
  refine v_aload_n (pc := 30) 0 hX dX4_copyFrom_30 rfl ?_
  refine v_aload_n (pc := 31) 1 hX dX4_copyFrom_31 rfl ?_
  refine v_getI (pc := 32) hX (m_o o (by omega) (by omega)) l_o.1 fl_4_29 rfl dX4_copyFrom_32 ?_
  obtain ⟨M4, eM4, h⟩ := bd_e h
  refine v_putI (pc := 35) hX (m_c c (by omega) (by omega)) l_c.1 pl_4_29 rfl dX4_copyFrom_35 eM4 ?_
  refine v_aload_n (pc := 38) 0 hX dX4_copyFrom_38 rfl ?_
  refine v_aload_n (pc := 39) 1 hX dX4_copyFrom_39 rfl ?_
  refine v_getI (pc := 40) hX (m_o o (by omega) (by omega)) l_o.1 fl_4_32 rfl dX4_copyFrom_40 ?_
  obtain ⟨M5, eM5, h⟩ := bd_e h
  refine v_putI (pc := 43) hX (m_c c (by omega) (by omega)) l_c.1 pl_4_32 rfl dX4_copyFrom_43 eM5 ?_
  refine v_aload_n (pc := 46) 0 hX dX4_copyFrom_46 rfl ?_
  refine v_aload_n (pc := 47) 1 hX dX4_copyFrom_47 rfl ?_
  refine v_getI (pc := 48) hX (m_o o (by omega) (by omega)) l_o.1 fl_4_35 rfl dX4_copyFrom_48 ?_
  obtain ⟨M6, eM6, h⟩ := bd_e h
  refine v_putI (pc := 51) hX (m_c c (by omega) (by omega)) l_c.1 pl_4_35 rfl dX4_copyFrom_51 eM6 ?_
  refine v_aload_n (pc := 54) 0 hX dX4_copyFrom_54 rfl ?_
  refine v_aload_n (pc := 55) 1 hX dX4_copyFrom_55 rfl ?_
  refine v_getI (pc := 56) hX (m_o o (by omega) (by omega)) l_o.1 fl_4_38 rfl dX4_copyFrom_56 ?_
  obtain ⟨M7, eM7, h⟩ := bd_e h
  refine v_putI (pc := 59) hX (m_c c (by omega) (by omega)) l_c.1 pl_4_38 rfl dX4_copyFrom_59 eM7 ?_
  refine v_aload_n (pc := 62) 1 hX dX4_copyFrom_62 rfl ?_
  refine v_getR (pc := 63) (t := (o + 2)) hX (m_o o (by omega) (by omega)) l_o.1 fl_4_15 rfl dX4_copyFrom_63 ?_
  refine v_iconst (pc := 66) hX dX4_copyFrom_66 ic_0 ?_
  refine v_aload_n (pc := 67) 0 hX dX4_copyFrom_67 rfl ?_
  refine v_getR (pc := 68) (t := (c + 2)) hX (m_c c (by omega) (by omega)) l_c.1 fl_4_15 rfl dX4_copyFrom_68 ?_
  refine v_iconst (pc := 71) hX dX4_copyFrom_71 ic_0 ?_
  refine v_bipush (pc := 72) hX dX4_copyFrom_72 bp_18 ?_
  obtain ⟨M8, eM8, h⟩ := bd_e h
  refine v_copy (pc := 74) hX cm_4_45 (m_o (o + 2) (by omega) (by omega)) (m_c (c + 2) (by omega) (by omega)) l_o.2.2 l_c.2.2 nn_0 nn_0 nn_18 ix_0 ix_0 ix_18 (by decide) (by decide) (Nat.le_of_ble_eq_true rfl) (Nat.le_of_ble_eq_true rfl) dX4_copyFrom_74 eM8 ?_
  refine v_aload_n (pc := 77) 0 hX dX4_copyFrom_77 rfl ?_
  refine v_aload_n (pc := 78) 1 hX dX4_copyFrom_78 rfl ?_
  refine v_getI (pc := 79) hX (m_o o (by omega) (by omega)) l_o.1 fl_4_41 rfl dX4_copyFrom_79 ?_
  obtain ⟨g9, h⟩ := gd_e h
  obtain ⟨M10, eM10, h⟩ := bd_e h
  refine v_putZ (pc := 82) hX (m_c c (by omega) (by omega)) l_c.1 pl_4_41 rfl g9 dX4_copyFrom_82 eM10 ?_
  obtain rfl := Option.some.inj h
  exact v_vret (pc := 85) hX hR dX4_copyFrom_85
set_option maxHeartbeats 4000000 in
set_option maxRecDepth 100000 in
theorem c_X6_copyFrom {ad : Nat → Nat} {cs : List Nat} (c : Nat) (l_c : ly6 c) (m_c : ∀ k, c ≤ k → k < c + 13 → k ∈ cs) (o : Nat) (l_o : ly6 o) (m_o : ∀ k, o ≤ k → k < o + 13 → k ∈ cs) (M : Mm) (q : Mm) (h : fX6_copyFrom c o M = some q) : CT ad cs yX6_copyFrom cX6_copyFrom 2 none 2 47 [.ref (ad c), .ref (ad o)] M none q := by
  refine CT.of RX6 (by decide +kernel) rfl (Nat.le_of_ble_eq_true rfl) (fun X hX hR => ?_)
  unfold fX6_copyFrom at h
  show VV X 2 ad cs M 0 [(0, .ref (ad c)), (1, .ref (ad o))] []
  refine v_aload_n (pc := 0) 0 hX dX6_copyFrom_0 rfl ?_
  refine v_aload_n (pc := 1) 1 hX dX6_copyFrom_1 rfl ?_
  refine v_getI (pc := 2) hX (m_o o (by omega) (by omega)) l_o.1 fl_6_39 rfl dX6_copyFrom_2 ?_
  obtain ⟨M1, eM1, h⟩ := bd_e h
  refine v_putI (pc := 5) hX (m_c c (by omega) (by omega)) l_c.1 pl_6_39 rfl dX6_copyFrom_5 eM1 ?_
  refine v_aload_n (pc := 8) 0 hX dX6_copyFrom_8 rfl ?_
  refine v_aload_n (pc := 9) 1 hX dX6_copyFrom_9 rfl ?_
  refine v_getI (pc := 10) hX (m_o o (by omega) (by omega)) l_o.1 fl_6_43 rfl dX6_copyFrom_10 ?_
  obtain ⟨M2, eM2, h⟩ := bd_e h
  refine v_putI (pc := 13) hX (m_c c (by omega) (by omega)) l_c.1 pl_6_43 rfl dX6_copyFrom_13 eM2 ?_
  refine v_aload_n (pc := 16) 0 hX dX6_copyFrom_16 rfl ?_
  refine v_aload_n (pc := 17) 1 hX dX6_copyFrom_17 rfl ?_
  refine v_getI (pc := 18) hX (m_o o (by omega) (by omega)) l_o.1 fl_6_46 rfl dX6_copyFrom_18 ?_
  obtain ⟨M3, eM3, h⟩ := bd_e h
  refine v_putI (pc := 21) hX (m_c c (by omega) (by omega)) l_c.1 pl_6_46 rfl dX6_copyFrom_21 eM3 ?_
  refine v_aload_n (pc := 24) 0 hX dX6_copyFrom_24 rfl ?_
  refine v_getR (pc := 25) (t := (c + 1)) hX (m_c c (by omega) (by omega)) l_c.1 fl_6_12 rfl dX6_copyFrom_25 ?_
  refine v_aload_n (pc := 28) 1 hX dX6_copyFrom_28 rfl ?_
  refine v_getR (pc := 29) (t := (o + 1)) hX (m_o o (by omega) (by omega)) l_o.1 fl_6_12 rfl dX6_copyFrom_29 ?_
  obtain ⟨M5, h4, h⟩ := b1_e h
  refine v_callV (pc := 32) [.ref (ad (o + 1))] none M5 hX cv_6_62 (c_X7_copyFrom (c + 1) l_c.2.1 (sub_cs m_c (by omega) (by omega)) (o + 1) l_o.2.1 (sub_cs m_o (by omega) (by omega)) M3 M5 h4) (m_c (c + 1) (by omega) (by omega)) l_c.2.1.1 rfl rfl rfl ⟨Nat.le_of_ble_eq_true rfl, Nat.le_of_ble_eq_true rfl⟩ (Nat.le_of_ble_eq_true rfl) dX6_copyFrom_32 ?_
  show VV X 2 ad cs M5 35 [(0, .ref (ad c)), (1, .ref (ad o))] []
  refine v_aload_n (pc := 35) 0 hX dX6_copyFrom_35 rfl ?_
  refine v_getR (pc := 36) (t := (c + 4)) hX (m_c c (by omega) (by omega)) l_c.1 fl_6_21 rfl dX6_copyFrom_36 ?_
  refine v_aload_n (pc := 39) 1 hX dX6_copyFrom_39 rfl ?_
  refine v_getR (pc := 40) (t := (o + 4)) hX (m_o o (by omega) (by omega)) l_o.1 fl_6_21 rfl dX6_copyFrom_40 ?_
  obtain ⟨M7, h6, h⟩ := b1_e h
  refine v_callV (pc := 43) [.ref (ad (o + 4))] none M7 hX cv_6_66 (c_X0_copyFrom (c + 4) l_c.2.2.1 (sub_cs m_c (by omega) (by omega)) (o + 4) l_o.2.2.1 (sub_cs m_o (by omega) (by omega)) M5 M7 h6) (m_c (c + 4) (by omega) (by omega)) l_c.2.2.1.1 rfl rfl rfl ⟨Nat.le_of_ble_eq_true rfl, Nat.le_of_ble_eq_true rfl⟩ (Nat.le_of_ble_eq_true rfl) dX6_copyFrom_43 ?_
  show VV X 2 ad cs M7 46 [(0, .ref (ad c)), (1, .ref (ad o))] []
  refine v_aload_n (pc := 46) 0 hX dX6_copyFrom_46 rfl ?_
  refine v_getR (pc := 47) (t := (c + 7)) hX (m_c c (by omega) (by omega)) l_c.1 fl_6_28 rfl dX6_copyFrom_47 ?_
  refine v_aload_n (pc := 50) 1 hX dX6_copyFrom_50 rfl ?_
  refine v_getR (pc := 51) (t := (o + 7)) hX (m_o o (by omega) (by omega)) l_o.1 fl_6_28 rfl dX6_copyFrom_51 ?_
  obtain ⟨M9, h8, h⟩ := b1_e h
  refine v_callV (pc := 54) [.ref (ad (o + 7))] none M9 hX cv_6_69 (c_X1_copyFrom (c + 7) l_c.2.2.2.1 (sub_cs m_c (by omega) (by omega)) (o + 7) l_o.2.2.2.1 (sub_cs m_o (by omega) (by omega)) M7 M9 h8) (m_c (c + 7) (by omega) (by omega)) l_c.2.2.2.1.1 rfl rfl rfl ⟨Nat.le_of_ble_eq_true rfl, Nat.le_of_ble_eq_true rfl⟩ (Nat.le_of_ble_eq_true rfl) dX6_copyFrom_54 ?_
  show VV X 2 ad cs M9 57 [(0, .ref (ad c)), (1, .ref (ad o))] []
  refine v_aload_n (pc := 57) 0 hX dX6_copyFrom_57 rfl ?_
  refine v_getR (pc := 58) (t := (c + 10)) hX (m_c c (by omega) (by omega)) l_c.1 fl_6_35 rfl dX6_copyFrom_58 ?_
  refine v_aload_n (pc := 61) 1 hX dX6_copyFrom_61 rfl ?_
  refine v_getR (pc := 62) (t := (o + 10)) hX (m_o o (by omega) (by omega)) l_o.1 fl_6_35 rfl dX6_copyFrom_62 ?_
  obtain ⟨M11, h10, h⟩ := b1_e h
  refine v_callV (pc := 65) [.ref (ad (o + 10))] none M11 hX cv_6_72 (c_X4_copyFrom (c + 10) l_c.2.2.2.2 (sub_cs m_c (by omega) (by omega)) (o + 10) l_o.2.2.2.2 (sub_cs m_o (by omega) (by omega)) M9 M11 h10) (m_c (c + 10) (by omega) (by omega)) l_c.2.2.2.2.1 rfl rfl rfl ⟨Nat.le_of_ble_eq_true rfl, Nat.le_of_ble_eq_true rfl⟩ (Nat.le_of_ble_eq_true rfl) dX6_copyFrom_65 ?_
  show VV X 2 ad cs M11 68 [(0, .ref (ad c)), (1, .ref (ad o))] []
  obtain rfl := Option.some.inj h
  exact v_vret (pc := 68) hX hR dX6_copyFrom_68
set_option maxHeartbeats 4000000 in
set_option maxRecDepth 100000 in
theorem c_X2_push {ad : Nat → Nat} {cs : List Nat} (hcs : ∀ k, 1 ≤ k → k < 67 → k ∈ cs) (M : Mm) (q : Mm) (h : fX2_push M = some q) : CT ad cs yX2_push cX2_push 2 none 3 68 [.ref (ad 14), .ref (ad 1)] M none q := by
  refine CT.of RX2 (by decide +kernel) rfl (Nat.le_of_ble_eq_true rfl) (fun X hX hR => ?_)
  unfold fX2_push at h
  show VV X 2 ad cs M 0 [(0, .ref (ad 14)), (1, .ref (ad 1))] []
  refine v_aload_n (pc := 0) 0 hX dX2_push_0 rfl ?_
  refine v_getR (pc := 1) (t := 54) hX (hcs 14 (Nat.le_of_ble_eq_true rfl) (Nat.le_of_ble_eq_true rfl)) sh_14 fl_2_24 rfl dX2_push_1 ?_
  refine v_aload_n (pc := 4) 0 hX dX2_push_4 rfl ?_
  refine v_getR (pc := 5) (t := 41) hX (hcs 14 (Nat.le_of_ble_eq_true rfl) (Nat.le_of_ble_eq_true rfl)) sh_14 fl_2_21 rfl dX2_push_5 ?_
  obtain ⟨M2, h1, h⟩ := b1_e h
  refine v_callV (pc := 8) [.ref (ad 41)] none M2 hX cv_2_27 (c_X6_copyFrom 54 lyat_54 (sub_cs hcs (Nat.le_of_ble_eq_true rfl) (Nat.le_of_ble_eq_true rfl)) 41 lyat_41 (sub_cs hcs (Nat.le_of_ble_eq_true rfl) (Nat.le_of_ble_eq_true rfl)) M M2 h1) (hcs 54 (Nat.le_of_ble_eq_true rfl) (Nat.le_of_ble_eq_true rfl)) sh_54 rfl rfl rfl ⟨Nat.le_of_ble_eq_true rfl, Nat.le_of_ble_eq_true rfl⟩ (Nat.le_of_ble_eq_true rfl) dX2_push_8 ?_
  show VV X 2 ad cs M2 11 [(0, .ref (ad 14)), (1, .ref (ad 1))] []
  refine v_aload_n (pc := 11) 0 hX dX2_push_11 rfl ?_
  refine v_getR (pc := 12) (t := 41) hX (hcs 14 (Nat.le_of_ble_eq_true rfl) (Nat.le_of_ble_eq_true rfl)) sh_14 fl_2_21 rfl dX2_push_12 ?_
  refine v_aload_n (pc := 15) 0 hX dX2_push_15 rfl ?_
  refine v_getR (pc := 16) (t := 28) hX (hcs 14 (Nat.le_of_ble_eq_true rfl) (Nat.le_of_ble_eq_true rfl)) sh_14 fl_2_18 rfl dX2_push_16 ?_
  obtain ⟨M4, h3, h⟩ := b1_e h
  refine v_callV (pc := 19) [.ref (ad 28)] none M4 hX cv_2_27 (c_X6_copyFrom 41 lyat_41 (sub_cs hcs (Nat.le_of_ble_eq_true rfl) (Nat.le_of_ble_eq_true rfl)) 28 lyat_28 (sub_cs hcs (Nat.le_of_ble_eq_true rfl) (Nat.le_of_ble_eq_true rfl)) M2 M4 h3) (hcs 41 (Nat.le_of_ble_eq_true rfl) (Nat.le_of_ble_eq_true rfl)) sh_41 rfl rfl rfl ⟨Nat.le_of_ble_eq_true rfl, Nat.le_of_ble_eq_true rfl⟩ (Nat.le_of_ble_eq_true rfl) dX2_push_19 ?_
  show VV X 2 ad cs M4 22 [(0, .ref (ad 14)), (1, .ref (ad 1))] []
  refine v_aload_n (pc := 22) 0 hX dX2_push_22 rfl ?_
  refine v_getR (pc := 23) (t := 28) hX (hcs 14 (Nat.le_of_ble_eq_true rfl) (Nat.le_of_ble_eq_true rfl)) sh_14 fl_2_18 rfl dX2_push_23 ?_
  refine v_aload_n (pc := 26) 0 hX dX2_push_26 rfl ?_
  refine v_getR (pc := 27) (t := 15) hX (hcs 14 (Nat.le_of_ble_eq_true rfl) (Nat.le_of_ble_eq_true rfl)) sh_14 fl_2_12 rfl dX2_push_27 ?_
  obtain ⟨M6, h5, h⟩ := b1_e h
  refine v_callV (pc := 30) [.ref (ad 15)] none M6 hX cv_2_27 (c_X6_copyFrom 28 lyat_28 (sub_cs hcs (Nat.le_of_ble_eq_true rfl) (Nat.le_of_ble_eq_true rfl)) 15 lyat_15 (sub_cs hcs (Nat.le_of_ble_eq_true rfl) (Nat.le_of_ble_eq_true rfl)) M4 M6 h5) (hcs 28 (Nat.le_of_ble_eq_true rfl) (Nat.le_of_ble_eq_true rfl)) sh_28 rfl rfl rfl ⟨Nat.le_of_ble_eq_true rfl, Nat.le_of_ble_eq_true rfl⟩ (Nat.le_of_ble_eq_true rfl) dX2_push_30 ?_
  show VV X 2 ad cs M6 33 [(0, .ref (ad 14)), (1, .ref (ad 1))] []
  refine v_aload_n (pc := 33) 0 hX dX2_push_33 rfl ?_
  refine v_getR (pc := 34) (t := 15) hX (hcs 14 (Nat.le_of_ble_eq_true rfl) (Nat.le_of_ble_eq_true rfl)) sh_14 fl_2_12 rfl dX2_push_34 ?_
  refine v_aload_n (pc := 37) 1 hX dX2_push_37 rfl ?_
  obtain ⟨M8, h7, h⟩ := b1_e h
  refine v_callV (pc := 38) [.ref (ad 1)] none M8 hX cv_2_27 (c_X6_copyFrom 15 lyat_15 (sub_cs hcs (Nat.le_of_ble_eq_true rfl) (Nat.le_of_ble_eq_true rfl)) 1 lyat_1 (sub_cs hcs (Nat.le_of_ble_eq_true rfl) (Nat.le_of_ble_eq_true rfl)) M6 M8 h7) (hcs 15 (Nat.le_of_ble_eq_true rfl) (Nat.le_of_ble_eq_true rfl)) sh_15 rfl rfl rfl ⟨Nat.le_of_ble_eq_true rfl, Nat.le_of_ble_eq_true rfl⟩ (Nat.le_of_ble_eq_true rfl) dX2_push_38 ?_
  show VV X 2 ad cs M8 41 [(0, .ref (ad 14)), (1, .ref (ad 1))] []
  refine v_aload_n (pc := 41) 0 hX dX2_push_41 rfl ?_
  refine v_aload_n (pc := 42) 0 hX dX2_push_42 rfl ?_
  refine v_getI (pc := 43) hX (hcs 14 (Nat.le_of_ble_eq_true rfl) (Nat.le_of_ble_eq_true rfl)) sh_14 fl_2_31 rfl dX2_push_43 ?_
  refine v_iconst (pc := 46) hX dX2_push_46 ic_1 ?_
  refine v_iadd (pc := 47) hX dX2_push_47 ?_
  refine v_iconst (pc := 48) hX dX2_push_48 ic_4 ?_
  refine v_min (pc := 49) hX cm_2_35 (Nat.le_of_ble_eq_true rfl) (Nat.le_of_ble_eq_true rfl) dX2_push_49 ?_
  obtain ⟨M9, eM9, h⟩ := bd_e h
  refine v_putI (pc := 52) hX (hcs 14 (Nat.le_of_ble_eq_true rfl) (Nat.le_of_ble_eq_true rfl)) sh_14 pl_2_31 rfl dX2_push_52 eM9 ?_
  obtain rfl := Option.some.inj h
  exact v_vret (pc := 55) hX hR dX2_push_55
set_option maxHeartbeats 4000000 in
set_option maxRecDepth 100000 in
theorem c_X0_reset {ad : Nat → Nat} {cs : List Nat} (hcs : ∀ k, 5 ≤ k → k < 8 → k ∈ cs) (M : Mm) (q : Mm) (h : fX0_reset M = some q) : CT ad cs yX0_reset cX0_reset 2 none 0 0 [.ref (ad 5)] M none q := by
  refine CT.of RX0 (by decide +kernel) rfl (Nat.le_of_ble_eq_true rfl) (fun X hX hR => ?_)
  unfold fX0_reset at h
  show VV X 2 ad cs M 0 [(0, .ref (ad 5))] []
  refine v_iconst (pc := 0) hX dX0_reset_0 ic_0 ?_
  refine v_istore_n (pc := 1) [(1, .int 0), (0, .ref (ad 5))] hX dX0_reset_1 (by decide) rfl ?_
  have L8 := v_itr (fX0_reset_L2) (fun z => VV X 2 ad cs z.2 2 [(0, .ref (ad 5)), (1, .int z.1)] []) (fun z => VV X 2 ad cs z 29 [] []) (by
    rintro ⟨x1, M2⟩ q h hK
    unfold fX0_reset_L2 at h
    have h := u2_b h
    show VV X 2 ad cs M2 2 [(0, .ref (ad 5)), (1, .int x1)] []
    refine v_iload_n (pc := 2) 1 hX dX0_reset_2 rfl ?_
    refine v_iconst (pc := 3) hX dX0_reset_3 ic_3 ?_
    refine v_icmp_ge (pc := 4) (tgt := 29) hX dX0_reset_4 (by decide) (fun h3 => ?_) (fun h3 => ?_)
    · have h := if_t h h3
      obtain rfl := Option.some.inj h
      exact v_sub [] rfl hK
    · have h := if_f h h3
      refine v_aload_n (pc := 7) 0 hX dX0_reset_7 rfl ?_
      refine v_getR (pc := 8) (t := 6) hX (hcs 5 (Nat.le_of_ble_eq_true rfl) (Nat.le_of_ble_eq_true rfl)) sh_5 fl_0_9 rfl dX0_reset_8 ?_
      refine v_iload_n (pc := 11) 1 hX dX0_reset_11 rfl ?_
      refine v_bipush (pc := 12) hX dX0_reset_12 bp_m50 ?_
      obtain ⟨g4, h⟩ := gd_e h
      obtain ⟨M5, eM5, h⟩ := bd_e h
      refine v_iast (pc := 14) hX (hcs 6 (Nat.le_of_ble_eq_true rfl) (Nat.le_of_ble_eq_true rfl)) sh_6 g4 rfl dX0_reset_14 eM5 ?_
      refine v_aload_n (pc := 15) 0 hX dX0_reset_15 rfl ?_
      refine v_getR (pc := 16) (t := 7) hX (hcs 5 (Nat.le_of_ble_eq_true rfl) (Nat.le_of_ble_eq_true rfl)) sh_5 fl_0_15 rfl dX0_reset_16 ?_
      refine v_iload_n (pc := 19) 1 hX dX0_reset_19 rfl ?_
      refine v_bipush (pc := 20) hX dX0_reset_20 bp_50 ?_
      obtain ⟨M6, eM6, h⟩ := bd_e h
      refine v_iast (pc := 22) hX (hcs 7 (Nat.le_of_ble_eq_true rfl) (Nat.le_of_ble_eq_true rfl)) sh_7 g4 rfl dX0_reset_22 eM6 ?_
      obtain ⟨x7, ex7, h⟩ := bd_e h
      refine v_iinc (v := x7) (pc := 23) 1 [(1, .int x7), (0, .ref (ad 5))] hX dX0_reset_23 rfl (ex7.trans (by rw [ic_1])) (by decide) rfl ?_
      refine v_goto (pc := 26) (tgt := 2) hX dX0_reset_26 (by decide) ?_
      obtain rfl := Option.some.inj h
      exact v_sub [1, 0] rfl hK
  )
  obtain ⟨M9, h10, h⟩ := b1_e h
  refine v_sub [1, 0] rfl ?_
  refine L8 1000 _ _ h10 ?_
  show VV X 2 ad cs M9 29 [] []
  obtain rfl := Option.some.inj h
  exact v_vret (pc := 29) hX hR dX0_reset_29
set_option maxHeartbeats 4000000 in
set_option maxRecDepth 100000 in
theorem c_X1_add {ad : Nat → Nat} {cs : List Nat} (hcs : ∀ k, 8 ≤ k → k < 11 → k ∈ cs) (M : Mm) (w1 : Int32) (w2 : Int32) (w3 : Int32) (q : Mm) (h : fX1_add M w1 w2 w3 = some q) : CT ad cs yX1_add cX1_add 4 none 0 0 [.ref (ad 8), .int w1, .int w2, .int w3] M none q := by
  refine CT.of RX1 (by decide +kernel) rfl (Nat.le_of_ble_eq_true rfl) (fun X hX hR => ?_)
  unfold fX1_add at h
  show VV X 4 ad cs M 0 [(0, .ref (ad 8)), (1, .int w1), (2, .int w2), (3, .int w3)] []
  refine v_aload_n (pc := 0) 0 hX dX1_add_0 rfl ?_
  refine v_getI (pc := 1) hX (hcs 8 (Nat.le_of_ble_eq_true rfl) (Nat.le_of_ble_eq_true rfl)) sh_8 fl_1_18 rfl dX1_add_1 ?_
  refine v_bipush (pc := 4) hX dX1_add_4 bp_8 ?_
  refine v_icmp_lt (pc := 6) (tgt := 10) hX dX1_add_6 (by decide) (fun h1 => ?_) (fun h1 => ?_)
  · have h := if_t h h1
    refine v_aload_n (pc := 10) 0 hX dX1_add_10 rfl ?_
    refine v_getR (pc := 11) (t := 9) hX (hcs 8 (Nat.le_of_ble_eq_true rfl) (Nat.le_of_ble_eq_true rfl)) sh_8 fl_1_9 rfl dX1_add_11 ?_
    refine v_iconst (pc := 14) hX dX1_add_14 ic_3 ?_
    refine v_aload_n (pc := 15) 0 hX dX1_add_15 rfl ?_
    refine v_getI (pc := 16) hX (hcs 8 (Nat.le_of_ble_eq_true rfl) (Nat.le_of_ble_eq_true rfl)) sh_8 fl_1_18 rfl dX1_add_16 ?_
    refine v_imul (pc := 19) hX dX1_add_19 ?_
    refine v_iload_n (pc := 20) 1 hX dX1_add_20 rfl ?_
    obtain ⟨g2, h⟩ := gd_e h
    obtain ⟨M3, eM3, h⟩ := bd_e h
    refine v_iast (pc := 21) hX (hcs 9 (Nat.le_of_ble_eq_true rfl) (Nat.le_of_ble_eq_true rfl)) sh_9 g2 rfl dX1_add_21 eM3 ?_
    refine v_aload_n (pc := 22) 0 hX dX1_add_22 rfl ?_
    refine v_getR (pc := 23) (t := 9) hX (hcs 8 (Nat.le_of_ble_eq_true rfl) (Nat.le_of_ble_eq_true rfl)) sh_8 fl_1_9 rfl dX1_add_23 ?_
    refine v_iconst (pc := 26) hX dX1_add_26 ic_3 ?_
    refine v_aload_n (pc := 27) 0 hX dX1_add_27 rfl ?_
    refine v_getI (pc := 28) hX (hcs 8 (Nat.le_of_ble_eq_true rfl) (Nat.le_of_ble_eq_true rfl)) sh_8 fl_1_18 rfl dX1_add_28 ?_
    refine v_imul (pc := 31) hX dX1_add_31 ?_
    refine v_iconst (pc := 32) hX dX1_add_32 ic_1 ?_
    refine v_iadd (pc := 33) hX dX1_add_33 ?_
    refine v_iload_n (pc := 34) 2 hX dX1_add_34 rfl ?_
    obtain ⟨g4, h⟩ := gd_e h
    obtain ⟨M5, eM5, h⟩ := bd_e h
    refine v_iast (pc := 35) hX (hcs 9 (Nat.le_of_ble_eq_true rfl) (Nat.le_of_ble_eq_true rfl)) sh_9 g4 rfl dX1_add_35 eM5 ?_
    refine v_aload_n (pc := 36) 0 hX dX1_add_36 rfl ?_
    refine v_getR (pc := 37) (t := 9) hX (hcs 8 (Nat.le_of_ble_eq_true rfl) (Nat.le_of_ble_eq_true rfl)) sh_8 fl_1_9 rfl dX1_add_37 ?_
    refine v_iconst (pc := 40) hX dX1_add_40 ic_3 ?_
    refine v_aload_n (pc := 41) 0 hX dX1_add_41 rfl ?_
    refine v_getI (pc := 42) hX (hcs 8 (Nat.le_of_ble_eq_true rfl) (Nat.le_of_ble_eq_true rfl)) sh_8 fl_1_18 rfl dX1_add_42 ?_
    refine v_imul (pc := 45) hX dX1_add_45 ?_
    refine v_iconst (pc := 46) hX dX1_add_46 ic_2 ?_
    refine v_iadd (pc := 47) hX dX1_add_47 ?_
    refine v_iload_n (pc := 48) 3 hX dX1_add_48 rfl ?_
    obtain ⟨g6, h⟩ := gd_e h
    obtain ⟨M7, eM7, h⟩ := bd_e h
    refine v_iast (pc := 49) hX (hcs 9 (Nat.le_of_ble_eq_true rfl) (Nat.le_of_ble_eq_true rfl)) sh_9 g6 rfl dX1_add_49 eM7 ?_
    refine v_aload_n (pc := 50) 0 hX dX1_add_50 rfl ?_
    refine v_getR (pc := 51) (t := 10) hX (hcs 8 (Nat.le_of_ble_eq_true rfl) (Nat.le_of_ble_eq_true rfl)) sh_8 fl_1_15 rfl dX1_add_51 ?_
    refine v_aload_n (pc := 54) 0 hX dX1_add_54 rfl ?_
    refine v_getI (pc := 55) hX (hcs 8 (Nat.le_of_ble_eq_true rfl) (Nat.le_of_ble_eq_true rfl)) sh_8 fl_1_18 rfl dX1_add_55 ?_
    refine v_iconst (pc := 58) hX dX1_add_58 ic_0 ?_
    obtain ⟨g8, h⟩ := gd_e h
    obtain ⟨M9, eM9, h⟩ := bd_e h
    refine v_iast (pc := 59) hX (hcs 10 (Nat.le_of_ble_eq_true rfl) (Nat.le_of_ble_eq_true rfl)) sh_10 g8 rfl dX1_add_59 eM9 ?_
    refine v_aload_n (pc := 60) 0 hX dX1_add_60 rfl ?_
    refine v_dup (pc := 61) hX dX1_add_61 rfl ?_
    refine v_getI (pc := 62) hX (hcs 8 (Nat.le_of_ble_eq_true rfl) (Nat.le_of_ble_eq_true rfl)) sh_8 fl_1_18 rfl dX1_add_62 ?_
    refine v_iconst (pc := 65) hX dX1_add_65 ic_1 ?_
    refine v_iadd (pc := 66) hX dX1_add_66 ?_
    obtain ⟨M10, eM10, h⟩ := bd_e h
    refine v_putI (pc := 67) hX (hcs 8 (Nat.le_of_ble_eq_true rfl) (Nat.le_of_ble_eq_true rfl)) sh_8 pl_1_18 rfl dX1_add_67 eM10 ?_
    obtain rfl := Option.some.inj h
    exact v_vret (pc := 70) hX hR dX1_add_70
  · have h := if_f h h1
    obtain rfl := Option.some.inj h
    exact v_vret (pc := 9) hX hR dX1_add_9
set_option maxHeartbeats 4000000 in
set_option maxRecDepth 100000 in
theorem c_X1_addAlong {ad : Nat → Nat} {cs : List Nat} (hcs : ∀ k, 8 ≤ k → k < 11 → k ∈ cs) (M : Mm) (w1 : Int32) (w2 : Int32) (q : Mm) (h : fX1_addAlong M w1 w2 = some q) : CT ad cs yX1_addAlong cX1_addAlong 3 none 1 23 [.ref (ad 8), .int w1, .int w2] M none q := by
  refine CT.of RX1 (by decide +kernel) rfl (Nat.le_of_ble_eq_true rfl) (fun X hX hR => ?_)
  unfold fX1_addAlong at h
  show VV X 3 ad cs M 0 [(0, .ref (ad 8)), (1, .int w1), (2, .int w2)] []
  refine v_aload_n (pc := 0) 0 hX dX1_addAlong_0 rfl ?_
  refine v_iload_n (pc := 1) 1 hX dX1_addAlong_1 rfl ?_
  obtain ⟨k1, ek1, h⟩ := bd_e h
  have K2 : ∀ (x3 : Int32), k1 x3 = some q → VV X 3 ad cs M 10 [(1, .int w1), (2, .int w2)] [.int x3, .ref (ad 8)] := by
    intro x3 h
    subst ek1
    refine v_iload_n (pc := 10) 0 hX dX1_addAlong_10 rfl ?_
    refine v_iconst (pc := 11) hX dX1_addAlong_11 ic_1 ?_
    obtain ⟨k4, ek4, h⟩ := bd_e h
    have K5 : ∀ (x6 : Int32), k4 x6 = some q → VV X 3 ad cs M 20 [(1, .int w1), (2, .int w2)] [.int x6, .int x3, .ref (ad 8)] := by
      intro x6 h
      subst ek4
      refine v_iload_n (pc := 20) 0 hX dX1_addAlong_20 rfl ?_
      refine v_iconst (pc := 21) hX dX1_addAlong_21 ic_2 ?_
      refine v_icmp_ne (pc := 22) (tgt := 29) hX dX1_addAlong_22 (by decide) (fun h7 => ?_) (fun h7 => ?_)
      · have h := if_f h h7
        refine v_iconst (pc := 29) hX dX1_addAlong_29 ic_0 ?_
        obtain ⟨M9, h8, h⟩ := b1_e h
        refine v_callV (pc := 30) [.int x3, .int x6, .int 0] none M9 hX cv_1_26 (c_X1_add (sub_cs hcs (Nat.le_of_ble_eq_true rfl) (Nat.le_of_ble_eq_true rfl)) M x3 x6 0 M9 h8) (hcs 8 (Nat.le_of_ble_eq_true rfl) (Nat.le_of_ble_eq_true rfl)) sh_8 rfl rfl rfl ⟨Nat.le_of_ble_eq_true rfl, Nat.le_of_ble_eq_true rfl⟩ (Nat.le_of_ble_eq_true rfl) dX1_addAlong_30 ?_
        show VV X 3 ad cs M9 33 [(1, .int w1), (2, .int w2)] []
        obtain rfl := Option.some.inj h
        exact v_vret (pc := 33) hX hR dX1_addAlong_33
      · have h := if_t h h7
        refine v_iload_n (pc := 25) 1 hX dX1_addAlong_25 rfl ?_
        refine v_goto (pc := 26) (tgt := 30) hX dX1_addAlong_26 (by decide) ?_
        obtain ⟨M11, h10, h⟩ := b1_e h
        refine v_callV (pc := 30) [.int x3, .int x6, .int w2] none M11 hX cv_1_26 (c_X1_add (sub_cs hcs (Nat.le_of_ble_eq_true rfl) (Nat.le_of_ble_eq_true rfl)) M x3 x6 w2 M11 h10) (hcs 8 (Nat.le_of_ble_eq_true rfl) (Nat.le_of_ble_eq_true rfl)) sh_8 rfl rfl rfl ⟨Nat.le_of_ble_eq_true rfl, Nat.le_of_ble_eq_true rfl⟩ (Nat.le_of_ble_eq_true rfl) dX1_addAlong_30 ?_
        show VV X 3 ad cs M11 33 [(1, .int w1), (2, .int w2)] []
        obtain rfl := Option.some.inj h
        exact v_vret (pc := 33) hX hR dX1_addAlong_33
    refine v_icmp_ne (pc := 12) (tgt := 19) hX dX1_addAlong_12 (by decide) (fun h12 => ?_) (fun h12 => ?_)
    · have h := if_f h h12
      refine v_iconst (pc := 19) hX dX1_addAlong_19 ic_0 ?_
      exact v_sub [0, 1] rfl (K5 0 h)
    · have h := if_t h h12
      refine v_iload_n (pc := 15) 1 hX dX1_addAlong_15 rfl ?_
      refine v_goto (pc := 16) (tgt := 20) hX dX1_addAlong_16 (by decide) ?_
      exact v_sub [0, 1] rfl (K5 w2 h)
  refine v_if_ne (pc := 2) (tgt := 9) hX dX1_addAlong_2 (by decide) (fun h13 => ?_) (fun h13 => ?_)
  · have h := if_f h h13
    refine v_iconst (pc := 9) hX dX1_addAlong_9 ic_0 ?_
    exact v_sub [1, 2] rfl (K2 0 h)
  · have h := if_t h h13
    refine v_iload_n (pc := 5) 2 hX dX1_addAlong_5 rfl ?_
    refine v_goto (pc := 6) (tgt := 10) hX dX1_addAlong_6 (by decide) ?_
    exact v_sub [1, 2] rfl (K2 w2 h)
set_option maxHeartbeats 4000000 in
set_option maxRecDepth 100000 in
theorem c_X1_reset {ad : Nat → Nat} {cs : List Nat} (hcs : ∀ k, 8 ≤ k → k < 11 → k ∈ cs) (M : Mm) (w1 : Int32) (q : Mm) (h : fX1_reset M w1 = some q) : CT ad cs yX1_reset cX1_reset 3 none 2 45 [.ref (ad 8), .int w1] M none q := by
  refine CT.of RX1 (by decide +kernel) rfl (Nat.le_of_ble_eq_true rfl) (fun X hX hR => ?_)
  unfold fX1_reset at h
  show VV X 3 ad cs M 0 [(0, .ref (ad 8)), (1, .int w1)] []
  refine v_aload_n (pc := 0) 0 hX dX1_reset_0 rfl ?_
  refine v_iconst (pc := 1) hX dX1_reset_1 ic_0 ?_
  obtain ⟨M1, eM1, h⟩ := bd_e h
  refine v_putI (pc := 2) hX (hcs 8 (Nat.le_of_ble_eq_true rfl) (Nat.le_of_ble_eq_true rfl)) sh_8 pl_1_18 rfl dX1_reset_2 eM1 ?_
  refine v_iconst (pc := 5) hX dX1_reset_5 ic_0 ?_
  refine v_istore_n (pc := 6) [(2, .int 0), (0, .ref (ad 8)), (1, .int w1)] hX dX1_reset_6 (by decide) rfl ?_
  have L10 := v_itr (fX1_reset_L7 w1) (fun z => VV X 3 ad cs z.2 7 [(0, .ref (ad 8)), (1, .int w1), (2, .int z.1)] []) (fun z => VV X 3 ad cs z 30 [] []) (by
    rintro ⟨x2, M3⟩ q h hK
    unfold fX1_reset_L7 at h
    have h := u2_b h
    show VV X 3 ad cs M3 7 [(0, .ref (ad 8)), (1, .int w1), (2, .int x2)] []
    refine v_iload_n (pc := 7) 2 hX dX1_reset_7 rfl ?_
    refine v_iload_n (pc := 8) 1 hX dX1_reset_8 rfl ?_
    refine v_icmp_ge (pc := 9) (tgt := 30) hX dX1_reset_9 (by decide) (fun h4 => ?_) (fun h4 => ?_)
    · have h := if_t h h4
      obtain rfl := Option.some.inj h
      exact v_sub [] rfl hK
    · have h := if_f h h4
      refine v_aload_n (pc := 12) 0 hX dX1_reset_12 rfl ?_
      refine v_iload_n (pc := 13) 2 hX dX1_reset_13 rfl ?_
      refine v_iconst (pc := 14) hX dX1_reset_14 ic_1 ?_
      obtain ⟨M6, h5, h⟩ := b1_e h
      refine v_callV (pc := 15) [.int x2, .int 1] none M6 hX cv_1_22 (c_X1_addAlong (sub_cs hcs (Nat.le_of_ble_eq_true rfl) (Nat.le_of_ble_eq_true rfl)) M3 x2 1 M6 h5) (hcs 8 (Nat.le_of_ble_eq_true rfl) (Nat.le_of_ble_eq_true rfl)) sh_8 rfl rfl rfl ⟨Nat.le_of_ble_eq_true rfl, Nat.le_of_ble_eq_true rfl⟩ (Nat.le_of_ble_eq_true rfl) dX1_reset_15 ?_
      show VV X 3 ad cs M6 18 [(0, .ref (ad 8)), (1, .int w1), (2, .int x2)] []
      refine v_aload_n (pc := 18) 0 hX dX1_reset_18 rfl ?_
      refine v_iload_n (pc := 19) 2 hX dX1_reset_19 rfl ?_
      refine v_iconst (pc := 20) hX dX1_reset_20 ic_m1 ?_
      obtain ⟨M8, h7, h⟩ := b1_e h
      refine v_callV (pc := 21) [.int x2, .int (-1)] none M8 hX cv_1_22 (c_X1_addAlong (sub_cs hcs (Nat.le_of_ble_eq_true rfl) (Nat.le_of_ble_eq_true rfl)) M6 x2 (-1) M8 h7) (hcs 8 (Nat.le_of_ble_eq_true rfl) (Nat.le_of_ble_eq_true rfl)) sh_8 rfl rfl rfl ⟨Nat.le_of_ble_eq_true rfl, Nat.le_of_ble_eq_true rfl⟩ (Nat.le_of_ble_eq_true rfl) dX1_reset_21 ?_
      show VV X 3 ad cs M8 24 [(0, .ref (ad 8)), (1, .int w1), (2, .int x2)] []
      obtain ⟨x9, ex9, h⟩ := bd_e h
      refine v_iinc (v := x9) (pc := 24) 2 [(2, .int x9), (0, .ref (ad 8)), (1, .int w1)] hX dX1_reset_24 rfl (ex9.trans (by rw [ic_1])) (by decide) rfl ?_
      refine v_goto (pc := 27) (tgt := 7) hX dX1_reset_27 (by decide) ?_
      obtain rfl := Option.some.inj h
      exact v_sub [1, 2, 0] rfl hK
  )
  obtain ⟨M11, h12, h⟩ := b1_e h
  refine v_sub [1, 2, 0] rfl ?_
  refine L10 1000 _ _ h12 ?_
  show VV X 3 ad cs M11 30 [] []
  obtain rfl := Option.some.inj h
  exact v_vret (pc := 30) hX hR dX1_reset_30
set_option maxHeartbeats 4000000 in
set_option maxRecDepth 100000 in
theorem c_X4_moveTo {ad : Nat → Nat} {cs : List Nat} (hcs : ∀ k, 11 ≤ k → k < 13 → k ∈ cs) (M : Mm) (w1 : Int32) (w2 : Int32) (w3 : Int32) (q : Mm) (h : fX4_moveTo M w1 w2 w3 = some q) : CT ad cs yX4_moveTo cX4_moveTo 4 none 0 0 [.ref (ad 11), .int w1, .int w2, .int w3] M none q := by
  refine CT.of RX4 (by decide +kernel) rfl (Nat.le_of_ble_eq_true rfl) (fun X hX hR => ?_)
  unfold fX4_moveTo at h
  show VV X 4 ad cs M 0 [(0, .ref (ad 11)), (1, .int w1), (2, .int w2), (3, .int w3)] []
  refine v_aload_n (pc := 0) 0 hX dX4_moveTo_0 rfl ?_
  refine v_getR (pc := 1) (t := 12) hX (hcs 11 (Nat.le_of_ble_eq_true rfl) (Nat.le_of_ble_eq_true rfl)) sh_11 fl_4_9 rfl dX4_moveTo_1 ?_
  refine v_iconst (pc := 4) hX dX4_moveTo_4 ic_0 ?_
  refine v_iload_n (pc := 5) 1 hX dX4_moveTo_5 rfl ?_
  obtain ⟨M1, eM1, h⟩ := bd_e h
  refine v_iast (pc := 6) hX (hcs 12 (Nat.le_of_ble_eq_true rfl) (Nat.le_of_ble_eq_true rfl)) sh_12 (ib_0 (by decide)) ix_0 dX4_moveTo_6 eM1 ?_
  refine v_aload_n (pc := 7) 0 hX dX4_moveTo_7 rfl ?_
  refine v_getR (pc := 8) (t := 12) hX (hcs 11 (Nat.le_of_ble_eq_true rfl) (Nat.le_of_ble_eq_true rfl)) sh_11 fl_4_9 rfl dX4_moveTo_8 ?_
  refine v_iconst (pc := 11) hX dX4_moveTo_11 ic_1 ?_
  refine v_iload_n (pc := 12) 2 hX dX4_moveTo_12 rfl ?_
  obtain ⟨M2, eM2, h⟩ := bd_e h
  refine v_iast (pc := 13) hX (hcs 12 (Nat.le_of_ble_eq_true rfl) (Nat.le_of_ble_eq_true rfl)) sh_12 (ib_1 (by decide)) ix_1 dX4_moveTo_13 eM2 ?_
  refine v_aload_n (pc := 14) 0 hX dX4_moveTo_14 rfl ?_
  refine v_getR (pc := 15) (t := 12) hX (hcs 11 (Nat.le_of_ble_eq_true rfl) (Nat.le_of_ble_eq_true rfl)) sh_11 fl_4_9 rfl dX4_moveTo_15 ?_
  refine v_iconst (pc := 18) hX dX4_moveTo_18 ic_2 ?_
  refine v_iload_n (pc := 19) 3 hX dX4_moveTo_19 rfl ?_
  obtain ⟨M3, eM3, h⟩ := bd_e h
  refine v_iast (pc := 20) hX (hcs 12 (Nat.le_of_ble_eq_true rfl) (Nat.le_of_ble_eq_true rfl)) sh_12 (ib_2 (by decide)) ix_2 dX4_moveTo_20 eM3 ?_
  obtain rfl := Option.some.inj h
  exact v_vret (pc := 21) hX hR dX4_moveTo_21
set_option maxHeartbeats 4000000 in
set_option maxRecDepth 100000 in
theorem c_X4_begin {ad : Nat → Nat} {cs : List Nat} (hcs : ∀ k, 11 ≤ k → k < 13 → k ∈ cs) (M : Mm) (w1 : Int32) (w2 : Int32) (w3 : Int32) (w4 : Int32) (q : Mm) (h : fX4_begin M w1 w2 w3 w4 = some q) : CT ad cs yX4_begin cX4_begin 5 none 1 23 [.ref (ad 11), .int w1, .int w2, .int w3, .int w4] M none q := by
  refine CT.of RX4 (by decide +kernel) rfl (Nat.le_of_ble_eq_true rfl) (fun X hX hR => ?_)
  unfold fX4_begin at h
  show VV X 5 ad cs M 0 [(0, .ref (ad 11)), (1, .int w1), (2, .int w2), (3, .int w3), (4, .int w4)] []
  refine v_aload_n (pc := 0) 0 hX dX4_begin_0 rfl ?_
  refine v_iload_n (pc := 1) 1 hX dX4_begin_1 rfl ?_
  refine v_iload_n (pc := 2) 2 hX dX4_begin_2 rfl ?_
  refine v_iload_n (pc := 3) 3 hX dX4_begin_3 rfl ?_
  obtain ⟨M2, h1, h⟩ := b1_e h
  refine v_callV (pc := 4) [.int w1, .int w2, .int w3] none M2 hX cv_4_18 (c_X4_moveTo (sub_cs hcs (Nat.le_of_ble_eq_true rfl) (Nat.le_of_ble_eq_true rfl)) M w1 w2 w3 M2 h1) (hcs 11 (Nat.le_of_ble_eq_true rfl) (Nat.le_of_ble_eq_true rfl)) sh_11 rfl rfl rfl ⟨Nat.le_of_ble_eq_true rfl, Nat.le_of_ble_eq_true rfl⟩ (Nat.le_of_ble_eq_true rfl) dX4_begin_4 ?_
  show VV X 5 ad cs M2 7 [(0, .ref (ad 11)), (1, .int w1), (2, .int w2), (3, .int w3), (4, .int w4)] []
  refine v_aload_n (pc := 7) 0 hX dX4_begin_7 rfl ?_
  refine v_iload (pc := 8) 4 hX dX4_begin_8 rfl ?_
  obtain ⟨M3, eM3, h⟩ := bd_e h
  refine v_putI (pc := 10) hX (hcs 11 (Nat.le_of_ble_eq_true rfl) (Nat.le_of_ble_eq_true rfl)) sh_11 pl_4_22 rfl dX4_begin_10 eM3 ?_
  refine v_aload_n (pc := 13) 0 hX dX4_begin_13 rfl ?_
  refine v_iconst (pc := 14) hX dX4_begin_14 ic_0 ?_
  obtain ⟨M4, eM4, h⟩ := bd_e h
  refine v_putI (pc := 15) hX (hcs 11 (Nat.le_of_ble_eq_true rfl) (Nat.le_of_ble_eq_true rfl)) sh_11 pl_4_26 rfl dX4_begin_15 eM4 ?_
  refine v_aload_n (pc := 18) 0 hX dX4_begin_18 rfl ?_
  refine v_iconst (pc := 19) hX dX4_begin_19 ic_0 ?_
  obtain ⟨M5, eM5, h⟩ := bd_e h
  refine v_putI (pc := 20) hX (hcs 11 (Nat.le_of_ble_eq_true rfl) (Nat.le_of_ble_eq_true rfl)) sh_11 pl_4_29 rfl dX4_begin_20 eM5 ?_
  refine v_aload_n (pc := 23) 0 hX dX4_begin_23 rfl ?_
  refine v_iconst (pc := 24) hX dX4_begin_24 ic_0 ?_
  obtain ⟨M6, eM6, h⟩ := bd_e h
  refine v_putI (pc := 25) hX (hcs 11 (Nat.le_of_ble_eq_true rfl) (Nat.le_of_ble_eq_true rfl)) sh_11 pl_4_32 rfl dX4_begin_25 eM6 ?_
  refine v_aload_n (pc := 28) 0 hX dX4_begin_28 rfl ?_
  refine v_iconst (pc := 29) hX dX4_begin_29 ic_m1 ?_
  obtain ⟨M7, eM7, h⟩ := bd_e h
  refine v_putI (pc := 30) hX (hcs 11 (Nat.le_of_ble_eq_true rfl) (Nat.le_of_ble_eq_true rfl)) sh_11 pl_4_35 rfl dX4_begin_30 eM7 ?_
  refine v_aload_n (pc := 33) 0 hX dX4_begin_33 rfl ?_
  refine v_iconst (pc := 34) hX dX4_begin_34 ic_0 ?_
  obtain ⟨M8, eM8, h⟩ := bd_e h
  refine v_putI (pc := 35) hX (hcs 11 (Nat.le_of_ble_eq_true rfl) (Nat.le_of_ble_eq_true rfl)) sh_11 pl_4_38 rfl dX4_begin_35 eM8 ?_
  refine v_aload_n (pc := 38) 0 hX dX4_begin_38 rfl ?_
  refine v_iconst (pc := 39) hX dX4_begin_39 ic_0 ?_
  obtain ⟨M9, eM9, h⟩ := bd_e h
  refine v_putZ (pc := 40) hX (hcs 11 (Nat.le_of_ble_eq_true rfl) (Nat.le_of_ble_eq_true rfl)) sh_11 pl_4_41 rfl (Or.inl rfl) dX4_begin_40 eM9 ?_
  obtain rfl := Option.some.inj h
  exact v_vret (pc := 43) hX hR dX4_begin_43
set_option maxHeartbeats 4000000 in
set_option maxRecDepth 100000 in
theorem c_X6_reset {ad : Nat → Nat} {cs : List Nat} (hcs : ∀ k, 1 ≤ k → k < 13 → k ∈ cs) (M : Mm) (w1 : Int32) (q : Mm) (h : fX6_reset M w1 = some q) : CT ad cs yX6_reset cX6_reset 2 none 3 67 [.ref (ad 1), .int w1] M none q := by
  refine CT.of RX6 (by decide +kernel) rfl (Nat.le_of_ble_eq_true rfl) (fun X hX hR => ?_)
  unfold fX6_reset at h
  show VV X 2 ad cs M 0 [(0, .ref (ad 1)), (1, .int w1)] []
  refine v_aload_n (pc := 0) 0 hX dX6_reset_0 rfl ?_
  refine v_iload_n (pc := 1) 1 hX dX6_reset_1 rfl ?_
  obtain ⟨M1, eM1, h⟩ := bd_e h
  refine v_putI (pc := 2) hX (hcs 1 (Nat.le_of_ble_eq_true rfl) (Nat.le_of_ble_eq_true rfl)) sh_1 pl_6_39 rfl dX6_reset_2 eM1 ?_
  refine v_aload_n (pc := 5) 0 hX dX6_reset_5 rfl ?_
  refine v_iconst (pc := 6) hX dX6_reset_6 ic_0 ?_
  obtain ⟨M2, eM2, h⟩ := bd_e h
  refine v_putI (pc := 7) hX (hcs 1 (Nat.le_of_ble_eq_true rfl) (Nat.le_of_ble_eq_true rfl)) sh_1 pl_6_43 rfl dX6_reset_7 eM2 ?_
  refine v_aload_n (pc := 10) 0 hX dX6_reset_10 rfl ?_
  refine v_iconst (pc := 11) hX dX6_reset_11 ic_0 ?_
  obtain ⟨M3, eM3, h⟩ := bd_e h
  refine v_putI (pc := 12) hX (hcs 1 (Nat.le_of_ble_eq_true rfl) (Nat.le_of_ble_eq_true rfl)) sh_1 pl_6_46 rfl dX6_reset_12 eM3 ?_
  refine v_aload_n (pc := 15) 0 hX dX6_reset_15 rfl ?_
  refine v_getR (pc := 16) (t := 2) hX (hcs 1 (Nat.le_of_ble_eq_true rfl) (Nat.le_of_ble_eq_true rfl)) sh_1 fl_6_12 rfl dX6_reset_16 ?_
  refine v_iconst (pc := 19) hX dX6_reset_19 ic_0 ?_
  obtain ⟨M4, eM4, h⟩ := bd_e h
  refine v_putI (pc := 20) hX (hcs 2 (Nat.le_of_ble_eq_true rfl) (Nat.le_of_ble_eq_true rfl)) sh_2 pl_6_49 rfl dX6_reset_20 eM4 ?_
  refine v_aload_n (pc := 23) 0 hX dX6_reset_23 rfl ?_
  refine v_getR (pc := 24) (t := 5) hX (hcs 1 (Nat.le_of_ble_eq_true rfl) (Nat.le_of_ble_eq_true rfl)) sh_1 fl_6_21 rfl dX6_reset_24 ?_
  obtain ⟨M6, h5, h⟩ := b1_e h
  refine v_callV (pc := 27) [] none M6 hX cv_6_52 (c_X0_reset (sub_cs hcs (Nat.le_of_ble_eq_true rfl) (Nat.le_of_ble_eq_true rfl)) M4 M6 h5) (hcs 5 (Nat.le_of_ble_eq_true rfl) (Nat.le_of_ble_eq_true rfl)) sh_5 rfl rfl rfl ⟨Nat.le_of_ble_eq_true rfl, Nat.le_of_ble_eq_true rfl⟩ (Nat.le_of_ble_eq_true rfl) dX6_reset_27 ?_
  show VV X 2 ad cs M6 30 [(0, .ref (ad 1)), (1, .int w1)] []
  refine v_aload_n (pc := 30) 0 hX dX6_reset_30 rfl ?_
  refine v_getR (pc := 31) (t := 8) hX (hcs 1 (Nat.le_of_ble_eq_true rfl) (Nat.le_of_ble_eq_true rfl)) sh_1 fl_6_28 rfl dX6_reset_31 ?_
  refine v_iload_n (pc := 34) 1 hX dX6_reset_34 rfl ?_
  obtain ⟨M8, h7, h⟩ := b1_e h
  refine v_callV (pc := 35) [.int w1] none M8 hX cv_6_55 (c_X1_reset (sub_cs hcs (Nat.le_of_ble_eq_true rfl) (Nat.le_of_ble_eq_true rfl)) M6 w1 M8 h7) (hcs 8 (Nat.le_of_ble_eq_true rfl) (Nat.le_of_ble_eq_true rfl)) sh_8 rfl rfl rfl ⟨Nat.le_of_ble_eq_true rfl, Nat.le_of_ble_eq_true rfl⟩ (Nat.le_of_ble_eq_true rfl) dX6_reset_35 ?_
  show VV X 2 ad cs M8 38 [(0, .ref (ad 1)), (1, .int w1)] []
  refine v_aload_n (pc := 38) 0 hX dX6_reset_38 rfl ?_
  refine v_getR (pc := 39) (t := 11) hX (hcs 1 (Nat.le_of_ble_eq_true rfl) (Nat.le_of_ble_eq_true rfl)) sh_1 fl_6_35 rfl dX6_reset_39 ?_
  refine v_iconst (pc := 42) hX dX6_reset_42 ic_0 ?_
  refine v_iconst (pc := 43) hX dX6_reset_43 ic_0 ?_
  refine v_iconst (pc := 44) hX dX6_reset_44 ic_0 ?_
  refine v_iconst (pc := 45) hX dX6_reset_45 ic_4 ?_
  obtain ⟨M10, h9, h⟩ := b1_e h
  refine v_callV (pc := 46) [.int 0, .int 0, .int 0, .int 4] none M10 hX cv_6_58 (c_X4_begin (sub_cs hcs (Nat.le_of_ble_eq_true rfl) (Nat.le_of_ble_eq_true rfl)) M8 0 0 0 4 M10 h9) (hcs 11 (Nat.le_of_ble_eq_true rfl) (Nat.le_of_ble_eq_true rfl)) sh_11 rfl rfl rfl ⟨Nat.le_of_ble_eq_true rfl, Nat.le_of_ble_eq_true rfl⟩ (Nat.le_of_ble_eq_true rfl) dX6_reset_46 ?_
  show VV X 2 ad cs M10 49 [(0, .ref (ad 1)), (1, .int w1)] []
  obtain rfl := Option.some.inj h
  exact v_vret (pc := 49) hX hR dX6_reset_49
set_option maxHeartbeats 4000000 in
set_option maxRecDepth 100000 in
theorem c_X10_variables {ad : Nat → Nat} {cs : List Nat} (hcs : ∀ k, 0 ≤ k → k < 67 → k ∈ cs) (M : Mm) (w1 : Int32) (q : Int32 × Mm) (h : fX10_variables M w1 = some q) : CT ad cs yX10_variables cX10_variables 3 (some .int) 4 89 [.ref (ad 0), .int w1] M (some (.int q.1)) q.2 := by
  refine CT.of RX10 (by decide +kernel) rfl (Nat.le_of_ble_eq_true rfl) (fun X hX hR => ?_)
  unfold fX10_variables at h
  show VV X 3 ad cs M 0 [(0, .ref (ad 0)), (1, .int w1)] []
  refine v_iload_n (pc := 0) 1 hX dX10_variables_0 rfl ?_
  refine v_iconst (pc := 1) hX dX10_variables_1 ic_1 ?_
  refine v_iconst (pc := 2) hX dX10_variables_2 ic_3 ?_
  obtain ⟨x2, h1, h⟩ := b1_e h
  refine v_callS (pc := 3) [.int w1, .int 1, .int 3] (some (.int x2)) M hX cv_10_62 (c_X10_within M w1 1 3 x2 h1) rfl rfl ⟨Nat.le_of_ble_eq_true rfl, Nat.le_of_ble_eq_true rfl⟩ (Nat.le_of_ble_eq_true rfl) dX10_variables_3 ?_
  show VV X 3 ad cs M 6 [(0, .ref (ad 0)), (1, .int w1)] [.int x2]
  refine v_if_ne (pc := 6) (tgt := 12) hX dX10_variables_6 (by decide) (fun h3 => ?_) (fun h3 => ?_)
  · have h := if_f h h3
    refine v_aload_n (pc := 12) 0 hX dX10_variables_12 rfl ?_
    refine v_getR (pc := 13) (t := 1) hX (hcs 0 (Nat.le_of_ble_eq_true rfl) (Nat.le_of_ble_eq_true rfl)) sh_0 fl_10_10 rfl dX10_variables_13 ?_
    refine v_getI (pc := 16) hX (hcs 1 (Nat.le_of_ble_eq_true rfl) (Nat.le_of_ble_eq_true rfl)) sh_1 fl_10_67 rfl dX10_variables_16 ?_
    obtain ⟨x4, ex4, h⟩ := bd_e h
    refine v_top ex4 ?_
    refine v_istore_n (pc := 19) [(2, .int x4), (0, .ref (ad 0)), (1, .int w1)] hX dX10_variables_19 (by decide) rfl ?_
    refine v_aload_n (pc := 20) 1 hX dX10_variables_20 rfl ?_
    refine v_getR (pc := 21) (t := 14) hX (hcs 0 (Nat.le_of_ble_eq_true rfl) (Nat.le_of_ble_eq_true rfl)) sh_0 fl_10_23 rfl dX10_variables_21 ?_
    refine v_aload_n (pc := 24) 1 hX dX10_variables_24 rfl ?_
    refine v_getR (pc := 25) (t := 1) hX (hcs 0 (Nat.le_of_ble_eq_true rfl) (Nat.le_of_ble_eq_true rfl)) sh_0 fl_10_10 rfl dX10_variables_25 ?_
    obtain ⟨M6, h5, h⟩ := b1_e h
    refine v_callV (pc := 28) [.ref (ad 1)] none M6 hX cv_10_71 (c_X2_push (sub_cs hcs (Nat.le_of_ble_eq_true rfl) (Nat.le_of_ble_eq_true rfl)) M M6 h5) (hcs 14 (Nat.le_of_ble_eq_true rfl) (Nat.le_of_ble_eq_true rfl)) sh_14 rfl rfl rfl ⟨Nat.le_of_ble_eq_true rfl, Nat.le_of_ble_eq_true rfl⟩ (Nat.le_of_ble_eq_true rfl) dX10_variables_28 ?_
    show VV X 3 ad cs M6 31 [(2, .int x4), (0, .ref (ad 0)), (1, .int w1)] []
    refine v_aload_n (pc := 31) 1 hX dX10_variables_31 rfl ?_
    refine v_getR (pc := 32) (t := 1) hX (hcs 0 (Nat.le_of_ble_eq_true rfl) (Nat.le_of_ble_eq_true rfl)) sh_0 fl_10_10 rfl dX10_variables_32 ?_
    refine v_iload_n (pc := 35) 2 hX dX10_variables_35 rfl ?_
    obtain ⟨M8, h7, h⟩ := b1_e h
    refine v_callV (pc := 36) [.int w1] none M8 hX cv_10_16 (c_X6_reset (sub_cs hcs (Nat.le_of_ble_eq_true rfl) (Nat.le_of_ble_eq_true rfl)) M6 w1 M8 h7) (hcs 1 (Nat.le_of_ble_eq_true rfl) (Nat.le_of_ble_eq_true rfl)) sh_1 rfl rfl rfl ⟨Nat.le_of_ble_eq_true rfl, Nat.le_of_ble_eq_true rfl⟩ (Nat.le_of_ble_eq_true rfl) dX10_variables_36 ?_
    show VV X 3 ad cs M8 39 [(2, .int x4), (0, .ref (ad 0)), (1, .int w1)] []
    refine v_iload_n (pc := 39) 0 hX dX10_variables_39 rfl ?_
    obtain rfl := Option.some.inj h
    exact v_iret (pc := 40) hX hR dX10_variables_40
  · have h := if_t h h3
    refine v_ldc (pc := 9) hX kc_10_66 dX10_variables_9 ?_
    obtain rfl := Option.some.inj h
    exact v_iret (pc := 11) hX hR dX10_variables_11
set_option maxHeartbeats 4000000 in
set_option maxRecDepth 100000 in
theorem c_X6_fit {ad : Nat → Nat} {cs : List Nat} (hcs : ∀ k, 1 ≤ k → k < 2 → k ∈ cs) (M : Mm) (w1 : Int32) (w2 : Int32) (w3 : Int32) (w4 : Int32) (w5 : Int32) (q : Int32) (h : fX6_fit M w1 w2 w3 w4 w5 = some q) : CT ad cs yX6_fit cX6_fit 6 (some .boolean) 1 22 [.ref (ad 1), .int w1, .int w2, .int w3, .int w4, .int w5] M (some (.int q)) M := by
  refine CT.of RX6 (by decide +kernel) rfl (Nat.le_of_ble_eq_true rfl) (fun X hX hR => ?_)
  unfold fX6_fit at h
  show VV X 6 ad cs M 0 [(0, .ref (ad 1)), (1, .int w1), (2, .int w2), (3, .int w3), (4, .int w4), (5, .int w5)] []
  refine v_iload_n (pc := 0) 1 hX dX6_fit_0 rfl ?_
  refine v_iload (pc := 1) 4 hX dX6_fit_1 rfl ?_
  refine v_iload (pc := 3) 5 hX dX6_fit_3 rfl ?_
  obtain ⟨x2, h1, h⟩ := b1_e h
  refine v_callN (pc := 5) [.int w1, .int w4, .int w5] (some (.int x2)) M hX cv_6_75 (c_X10_within M w1 w4 w5 x2 h1) rfl rfl ⟨Nat.le_of_ble_eq_true rfl, Nat.le_of_ble_eq_true rfl⟩ (Nat.le_of_ble_eq_true rfl) dX6_fit_5 ?_
  show VV X 6 ad cs M 8 [(0, .ref (ad 1)), (1, .int w1), (2, .int w2), (3, .int w3), (4, .int w4), (5, .int w5)] [.int x2]
  refine v_if_eq (pc := 8) (tgt := 61) hX dX6_fit_8 (by decide) (fun h3 => ?_) (fun h3 => ?_)
  · have h := if_t h h3
    refine v_iconst (pc := 61) hX dX6_fit_61 ic_0 ?_
    obtain rfl := Option.some.inj h
    exact v_zret (pc := 62) hX hR (Or.inl rfl) dX6_fit_62
  · have h := if_f h h3
    refine v_iload_n (pc := 11) 2 hX dX6_fit_11 rfl ?_
    refine v_iload (pc := 12) 4 hX dX6_fit_12 rfl ?_
    refine v_iload (pc := 14) 5 hX dX6_fit_14 rfl ?_
    obtain ⟨x5, h4, h⟩ := b1_e h
    refine v_callN (pc := 16) [.int w2, .int w4, .int w5] (some (.int x5)) M hX cv_6_75 (c_X10_within M w2 w4 w5 x5 h4) rfl rfl ⟨Nat.le_of_ble_eq_true rfl, Nat.le_of_ble_eq_true rfl⟩ (Nat.le_of_ble_eq_true rfl) dX6_fit_16 ?_
    show VV X 6 ad cs M 19 [(0, .ref (ad 1)), (1, .int w1), (2, .int w2), (3, .int w3), (4, .int w4), (5, .int w5)] [.int x5]
    refine v_if_eq (pc := 19) (tgt := 61) hX dX6_fit_19 (by decide) (fun h6 => ?_) (fun h6 => ?_)
    · have h := if_t h h6
      refine v_iconst (pc := 61) hX dX6_fit_61 ic_0 ?_
      obtain rfl := Option.some.inj h
      exact v_zret (pc := 62) hX hR (Or.inl rfl) dX6_fit_62
    · have h := if_f h h6
      refine v_iload_n (pc := 22) 3 hX dX6_fit_22 rfl ?_
      refine v_iload (pc := 23) 4 hX dX6_fit_23 rfl ?_
      refine v_iload (pc := 25) 5 hX dX6_fit_25 rfl ?_
      obtain ⟨x8, h7, h⟩ := b1_e h
      refine v_callN (pc := 27) [.int w3, .int w4, .int w5] (some (.int x8)) M hX cv_6_75 (c_X10_within M w3 w4 w5 x8 h7) rfl rfl ⟨Nat.le_of_ble_eq_true rfl, Nat.le_of_ble_eq_true rfl⟩ (Nat.le_of_ble_eq_true rfl) dX6_fit_27 ?_
      show VV X 6 ad cs M 30 [(0, .ref (ad 1)), (1, .int w1), (2, .int w2), (3, .int w3), (4, .int w4), (5, .int w5)] [.int x8]
      refine v_if_eq (pc := 30) (tgt := 61) hX dX6_fit_30 (by decide) (fun h9 => ?_) (fun h9 => ?_)
      · have h := if_t h h9
        refine v_iconst (pc := 61) hX dX6_fit_61 ic_0 ?_
        obtain rfl := Option.some.inj h
        exact v_zret (pc := 62) hX hR (Or.inl rfl) dX6_fit_62
      · have h := if_f h h9
        refine v_aload_n (pc := 33) 0 hX dX6_fit_33 rfl ?_
        refine v_getI (pc := 34) hX (hcs 1 (Nat.le_of_ble_eq_true rfl) (Nat.le_of_ble_eq_true rfl)) sh_1 fl_6_39 rfl dX6_fit_34 ?_
        refine v_iconst (pc := 37) hX dX6_fit_37 ic_1 ?_
        obtain ⟨k10, ek10, h⟩ := bd_e h
        have K11 : ∀ (_ : Unit), k10 () = some q → VV X 6 ad cs M 45 [(0, .ref (ad 1)), (3, .int w3)] [] := by
          intro _ h
          subst ek10
          refine v_aload_n (pc := 45) 0 hX dX6_fit_45 rfl ?_
          refine v_getI (pc := 46) hX (hcs 1 (Nat.le_of_ble_eq_true rfl) (Nat.le_of_ble_eq_true rfl)) sh_1 fl_6_39 rfl dX6_fit_46 ?_
          refine v_iconst (pc := 49) hX dX6_fit_49 ic_2 ?_
          refine v_icmp_gt (pc := 50) (tgt := 57) hX dX6_fit_50 (by decide) (fun h12 => ?_) (fun h12 => ?_)
          · have h := if_t h h12
            refine v_iconst (pc := 57) hX dX6_fit_57 ic_1 ?_
            refine v_goto (pc := 58) (tgt := 62) hX dX6_fit_58 (by decide) ?_
            obtain rfl := Option.some.inj h
            exact v_zret (pc := 62) hX hR (Or.inr rfl) dX6_fit_62
          · have h := if_f h h12
            refine v_iload_n (pc := 53) 1 hX dX6_fit_53 rfl ?_
            refine v_if_ne (pc := 54) (tgt := 61) hX dX6_fit_54 (by decide) (fun h13 => ?_) (fun h13 => ?_)
            · have h := if_f h h13
              refine v_iconst (pc := 61) hX dX6_fit_61 ic_0 ?_
              obtain rfl := Option.some.inj h
              exact v_zret (pc := 62) hX hR (Or.inl rfl) dX6_fit_62
            · have h := if_t h h13
              refine v_iconst (pc := 57) hX dX6_fit_57 ic_1 ?_
              refine v_goto (pc := 58) (tgt := 62) hX dX6_fit_58 (by decide) ?_
              obtain rfl := Option.some.inj h
              exact v_zret (pc := 62) hX hR (Or.inr rfl) dX6_fit_62
        refine v_icmp_gt (pc := 38) (tgt := 45) hX dX6_fit_38 (by decide) (fun h14 => ?_) (fun h14 => ?_)
        · have h := if_t h h14
          exact v_sub [0, 3] rfl (K11 () h)
        · have h := if_f h h14
          refine v_iload_n (pc := 41) 2 hX dX6_fit_41 rfl ?_
          refine v_if_ne (pc := 42) (tgt := 61) hX dX6_fit_42 (by decide) (fun h15 => ?_) (fun h15 => ?_)
          · have h := if_f h h15
            refine v_iconst (pc := 61) hX dX6_fit_61 ic_0 ?_
            obtain rfl := Option.some.inj h
            exact v_zret (pc := 62) hX hR (Or.inl rfl) dX6_fit_62
          · have h := if_t h h15
            exact v_sub [0, 3] rfl (K11 () h)
set_option maxHeartbeats 4000000 in
set_option maxRecDepth 100000 in
theorem c_X1_forgetTaken {ad : Nat → Nat} {cs : List Nat} (hcs : ∀ k, 8 ≤ k → k < 11 → k ∈ cs) (M : Mm) (q : Mm) (h : fX1_forgetTaken M = some q) : CT ad cs yX1_forgetTaken cX1_forgetTaken 2 none 0 0 [.ref (ad 8)] M none q := by
  refine CT.of RX1 (by decide +kernel) rfl (Nat.le_of_ble_eq_true rfl) (fun X hX hR => ?_)
  unfold fX1_forgetTaken at h
  show VV X 2 ad cs M 0 [(0, .ref (ad 8))] []
  refine v_iconst (pc := 0) hX dX1_forgetTaken_0 ic_0 ?_
  refine v_istore_n (pc := 1) [(1, .int 0), (0, .ref (ad 8))] hX dX1_forgetTaken_1 (by decide) rfl ?_
  have L7 := v_itr (fX1_forgetTaken_L2) (fun z => VV X 2 ad cs z.2 2 [(0, .ref (ad 8)), (1, .int z.1)] []) (fun z => VV X 2 ad cs z 21 [] []) (by
    rintro ⟨x1, M2⟩ q h hK
    unfold fX1_forgetTaken_L2 at h
    have h := u2_b h
    show VV X 2 ad cs M2 2 [(0, .ref (ad 8)), (1, .int x1)] []
    refine v_iload_n (pc := 2) 1 hX dX1_forgetTaken_2 rfl ?_
    refine v_bipush (pc := 3) hX dX1_forgetTaken_3 bp_8 ?_
    refine v_icmp_ge (pc := 5) (tgt := 21) hX dX1_forgetTaken_5 (by decide) (fun h3 => ?_) (fun h3 => ?_)
    · have h := if_t h h3
      obtain rfl := Option.some.inj h
      exact v_sub [] rfl hK
    · have h := if_f h h3
      refine v_aload_n (pc := 8) 0 hX dX1_forgetTaken_8 rfl ?_
      refine v_getR (pc := 9) (t := 10) hX (hcs 8 (Nat.le_of_ble_eq_true rfl) (Nat.le_of_ble_eq_true rfl)) sh_8 fl_1_15 rfl dX1_forgetTaken_9 ?_
      refine v_iload_n (pc := 12) 1 hX dX1_forgetTaken_12 rfl ?_
      refine v_iconst (pc := 13) hX dX1_forgetTaken_13 ic_0 ?_
      obtain ⟨g4, h⟩ := gd_e h
      obtain ⟨M5, eM5, h⟩ := bd_e h
      refine v_iast (pc := 14) hX (hcs 10 (Nat.le_of_ble_eq_true rfl) (Nat.le_of_ble_eq_true rfl)) sh_10 g4 rfl dX1_forgetTaken_14 eM5 ?_
      obtain ⟨x6, ex6, h⟩ := bd_e h
      refine v_iinc (v := x6) (pc := 15) 1 [(1, .int x6), (0, .ref (ad 8))] hX dX1_forgetTaken_15 rfl (ex6.trans (by rw [ic_1])) (by decide) rfl ?_
      refine v_goto (pc := 18) (tgt := 2) hX dX1_forgetTaken_18 (by decide) ?_
      obtain rfl := Option.some.inj h
      exact v_sub [1, 0] rfl hK
  )
  obtain ⟨M8, h9, h⟩ := b1_e h
  refine v_sub [1, 0] rfl ?_
  refine L7 1000 _ _ h9 ?_
  show VV X 2 ad cs M8 21 [] []
  obtain rfl := Option.some.inj h
  exact v_vret (pc := 21) hX hR dX1_forgetTaken_21
set_option maxHeartbeats 4000000 in
set_option maxRecDepth 100000 in
theorem c_X0_allow {ad : Nat → Nat} {cs : List Nat} (hcs : ∀ k, 5 ≤ k → k < 8 → k ∈ cs) (M : Mm) (w1 : Int32) (w2 : Int32) (w3 : Int32) (q : Int32) (h : fX0_allow M w1 w2 w3 = some q) : CT ad cs yX0_allow cX0_allow 4 (some .boolean) 1 22 [.ref (ad 5), .int w1, .int w2, .int w3] M (some (.int q)) M := by
  refine CT.of RX0 (by decide +kernel) rfl (Nat.le_of_ble_eq_true rfl) (fun X hX hR => ?_)
  unfold fX0_allow at h
  show VV X 4 ad cs M 0 [(0, .ref (ad 5)), (1, .int w1), (2, .int w2), (3, .int w3)] []
  refine v_iload_n (pc := 0) 1 hX dX0_allow_0 rfl ?_
  refine v_aload_n (pc := 1) 0 hX dX0_allow_1 rfl ?_
  refine v_getR (pc := 2) (t := 6) hX (hcs 5 (Nat.le_of_ble_eq_true rfl) (Nat.le_of_ble_eq_true rfl)) sh_5 fl_0_9 rfl dX0_allow_2 ?_
  refine v_iconst (pc := 5) hX dX0_allow_5 ic_0 ?_
  refine v_iald (pc := 6) hX (hcs 6 (Nat.le_of_ble_eq_true rfl) (Nat.le_of_ble_eq_true rfl)) sh_6 (ib_0 (by decide)) ix_0 dX0_allow_6 ?_
  refine v_aload_n (pc := 7) 0 hX dX0_allow_7 rfl ?_
  refine v_getR (pc := 8) (t := 7) hX (hcs 5 (Nat.le_of_ble_eq_true rfl) (Nat.le_of_ble_eq_true rfl)) sh_5 fl_0_15 rfl dX0_allow_8 ?_
  refine v_iconst (pc := 11) hX dX0_allow_11 ic_0 ?_
  refine v_iald (pc := 12) hX (hcs 7 (Nat.le_of_ble_eq_true rfl) (Nat.le_of_ble_eq_true rfl)) sh_7 (ib_0 (by decide)) ix_0 dX0_allow_12 ?_
  obtain ⟨x2, h1, h⟩ := b1_e h
  refine v_callN (pc := 13) [.int w1, .int (M.1 6 0), .int (M.1 7 0)] (some (.int x2)) M hX cv_0_24 (c_X10_within M w1 (M.1 6 0) (M.1 7 0) x2 h1) rfl rfl ⟨Nat.le_of_ble_eq_true rfl, Nat.le_of_ble_eq_true rfl⟩ (Nat.le_of_ble_eq_true rfl) dX0_allow_13 ?_
  show VV X 4 ad cs M 16 [(0, .ref (ad 5)), (1, .int w1), (2, .int w2), (3, .int w3)] [.int x2]
  refine v_if_eq (pc := 16) (tgt := 61) hX dX0_allow_16 (by decide) (fun h3 => ?_) (fun h3 => ?_)
  · have h := if_t h h3
    refine v_iconst (pc := 61) hX dX0_allow_61 ic_0 ?_
    obtain rfl := Option.some.inj h
    exact v_zret (pc := 62) hX hR (Or.inl rfl) dX0_allow_62
  · have h := if_f h h3
    refine v_iload_n (pc := 19) 2 hX dX0_allow_19 rfl ?_
    refine v_aload_n (pc := 20) 0 hX dX0_allow_20 rfl ?_
    refine v_getR (pc := 21) (t := 6) hX (hcs 5 (Nat.le_of_ble_eq_true rfl) (Nat.le_of_ble_eq_true rfl)) sh_5 fl_0_9 rfl dX0_allow_21 ?_
    refine v_iconst (pc := 24) hX dX0_allow_24 ic_1 ?_
    refine v_iald (pc := 25) hX (hcs 6 (Nat.le_of_ble_eq_true rfl) (Nat.le_of_ble_eq_true rfl)) sh_6 (ib_1 (by decide)) ix_1 dX0_allow_25 ?_
    refine v_aload_n (pc := 26) 0 hX dX0_allow_26 rfl ?_
    refine v_getR (pc := 27) (t := 7) hX (hcs 5 (Nat.le_of_ble_eq_true rfl) (Nat.le_of_ble_eq_true rfl)) sh_5 fl_0_15 rfl dX0_allow_27 ?_
    refine v_iconst (pc := 30) hX dX0_allow_30 ic_1 ?_
    refine v_iald (pc := 31) hX (hcs 7 (Nat.le_of_ble_eq_true rfl) (Nat.le_of_ble_eq_true rfl)) sh_7 (ib_1 (by decide)) ix_1 dX0_allow_31 ?_
    obtain ⟨x5, h4, h⟩ := b1_e h
    refine v_callN (pc := 32) [.int w2, .int (M.1 6 1), .int (M.1 7 1)] (some (.int x5)) M hX cv_0_24 (c_X10_within M w2 (M.1 6 1) (M.1 7 1) x5 h4) rfl rfl ⟨Nat.le_of_ble_eq_true rfl, Nat.le_of_ble_eq_true rfl⟩ (Nat.le_of_ble_eq_true rfl) dX0_allow_32 ?_
    show VV X 4 ad cs M 35 [(0, .ref (ad 5)), (1, .int w1), (2, .int w2), (3, .int w3)] [.int x5]
    refine v_if_eq (pc := 35) (tgt := 61) hX dX0_allow_35 (by decide) (fun h6 => ?_) (fun h6 => ?_)
    · have h := if_t h h6
      refine v_iconst (pc := 61) hX dX0_allow_61 ic_0 ?_
      obtain rfl := Option.some.inj h
      exact v_zret (pc := 62) hX hR (Or.inl rfl) dX0_allow_62
    · have h := if_f h h6
      refine v_iload_n (pc := 38) 3 hX dX0_allow_38 rfl ?_
      refine v_aload_n (pc := 39) 0 hX dX0_allow_39 rfl ?_
      refine v_getR (pc := 40) (t := 6) hX (hcs 5 (Nat.le_of_ble_eq_true rfl) (Nat.le_of_ble_eq_true rfl)) sh_5 fl_0_9 rfl dX0_allow_40 ?_
      refine v_iconst (pc := 43) hX dX0_allow_43 ic_2 ?_
      refine v_iald (pc := 44) hX (hcs 6 (Nat.le_of_ble_eq_true rfl) (Nat.le_of_ble_eq_true rfl)) sh_6 (ib_2 (by decide)) ix_2 dX0_allow_44 ?_
      refine v_aload_n (pc := 45) 0 hX dX0_allow_45 rfl ?_
      refine v_getR (pc := 46) (t := 7) hX (hcs 5 (Nat.le_of_ble_eq_true rfl) (Nat.le_of_ble_eq_true rfl)) sh_5 fl_0_15 rfl dX0_allow_46 ?_
      refine v_iconst (pc := 49) hX dX0_allow_49 ic_2 ?_
      refine v_iald (pc := 50) hX (hcs 7 (Nat.le_of_ble_eq_true rfl) (Nat.le_of_ble_eq_true rfl)) sh_7 (ib_2 (by decide)) ix_2 dX0_allow_50 ?_
      obtain ⟨x8, h7, h⟩ := b1_e h
      refine v_callN (pc := 51) [.int w3, .int (M.1 6 2), .int (M.1 7 2)] (some (.int x8)) M hX cv_0_24 (c_X10_within M w3 (M.1 6 2) (M.1 7 2) x8 h7) rfl rfl ⟨Nat.le_of_ble_eq_true rfl, Nat.le_of_ble_eq_true rfl⟩ (Nat.le_of_ble_eq_true rfl) dX0_allow_51 ?_
      show VV X 4 ad cs M 54 [(0, .ref (ad 5)), (1, .int w1), (2, .int w2), (3, .int w3)] [.int x8]
      refine v_if_eq (pc := 54) (tgt := 61) hX dX0_allow_54 (by decide) (fun h9 => ?_) (fun h9 => ?_)
      · have h := if_t h h9
        refine v_iconst (pc := 61) hX dX0_allow_61 ic_0 ?_
        obtain rfl := Option.some.inj h
        exact v_zret (pc := 62) hX hR (Or.inl rfl) dX0_allow_62
      · have h := if_f h h9
        refine v_iconst (pc := 57) hX dX0_allow_57 ic_1 ?_
        refine v_goto (pc := 58) (tgt := 62) hX dX0_allow_58 (by decide) ?_
        obtain rfl := Option.some.inj h
        exact v_zret (pc := 62) hX hR (Or.inr rfl) dX0_allow_62
set_option maxHeartbeats 4000000 in
set_option maxRecDepth 100000 in
theorem c_X6_placeIsAllowed {ad : Nat → Nat} {cs : List Nat} (hcs : ∀ k, 1 ≤ k → k < 13 → k ∈ cs) (M : Mm) (q : Int32) (h : fX6_placeIsAllowed M = some q) : CT ad cs yX6_placeIsAllowed cX6_placeIsAllowed 1 (some .boolean) 2 45 [.ref (ad 1)] M (some (.int q)) M := by
  refine CT.of RX6 (by decide +kernel) rfl (Nat.le_of_ble_eq_true rfl) (fun X hX hR => ?_)
  unfold fX6_placeIsAllowed at h
  show VV X 1 ad cs M 0 [(0, .ref (ad 1))] []
  refine v_aload_n (pc := 0) 0 hX dX6_placeIsAllowed_0 rfl ?_
  refine v_getR (pc := 1) (t := 5) hX (hcs 1 (Nat.le_of_ble_eq_true rfl) (Nat.le_of_ble_eq_true rfl)) sh_1 fl_6_21 rfl dX6_placeIsAllowed_1 ?_
  refine v_aload_n (pc := 4) 0 hX dX6_placeIsAllowed_4 rfl ?_
  refine v_getR (pc := 5) (t := 11) hX (hcs 1 (Nat.le_of_ble_eq_true rfl) (Nat.le_of_ble_eq_true rfl)) sh_1 fl_6_35 rfl dX6_placeIsAllowed_5 ?_
  refine v_getR (pc := 8) (t := 12) hX (hcs 11 (Nat.le_of_ble_eq_true rfl) (Nat.le_of_ble_eq_true rfl)) sh_11 fl_6_79 rfl dX6_placeIsAllowed_8 ?_
  refine v_iconst (pc := 11) hX dX6_placeIsAllowed_11 ic_0 ?_
  refine v_iald (pc := 12) hX (hcs 12 (Nat.le_of_ble_eq_true rfl) (Nat.le_of_ble_eq_true rfl)) sh_12 (ib_0 (by decide)) ix_0 dX6_placeIsAllowed_12 ?_
  refine v_aload_n (pc := 13) 0 hX dX6_placeIsAllowed_13 rfl ?_
  refine v_getR (pc := 14) (t := 11) hX (hcs 1 (Nat.le_of_ble_eq_true rfl) (Nat.le_of_ble_eq_true rfl)) sh_1 fl_6_35 rfl dX6_placeIsAllowed_14 ?_
  refine v_getR (pc := 17) (t := 12) hX (hcs 11 (Nat.le_of_ble_eq_true rfl) (Nat.le_of_ble_eq_true rfl)) sh_11 fl_6_79 rfl dX6_placeIsAllowed_17 ?_
  refine v_iconst (pc := 20) hX dX6_placeIsAllowed_20 ic_1 ?_
  refine v_iald (pc := 21) hX (hcs 12 (Nat.le_of_ble_eq_true rfl) (Nat.le_of_ble_eq_true rfl)) sh_12 (ib_1 (by decide)) ix_1 dX6_placeIsAllowed_21 ?_
  refine v_aload_n (pc := 22) 0 hX dX6_placeIsAllowed_22 rfl ?_
  refine v_getR (pc := 23) (t := 11) hX (hcs 1 (Nat.le_of_ble_eq_true rfl) (Nat.le_of_ble_eq_true rfl)) sh_1 fl_6_35 rfl dX6_placeIsAllowed_23 ?_
  refine v_getR (pc := 26) (t := 12) hX (hcs 11 (Nat.le_of_ble_eq_true rfl) (Nat.le_of_ble_eq_true rfl)) sh_11 fl_6_79 rfl dX6_placeIsAllowed_26 ?_
  refine v_iconst (pc := 29) hX dX6_placeIsAllowed_29 ic_2 ?_
  refine v_iald (pc := 30) hX (hcs 12 (Nat.le_of_ble_eq_true rfl) (Nat.le_of_ble_eq_true rfl)) sh_12 (ib_2 (by decide)) ix_2 dX6_placeIsAllowed_30 ?_
  obtain ⟨x2, h1, h⟩ := b1_e h
  refine v_callV (pc := 31) [.int (M.1 12 0), .int (M.1 12 1), .int (M.1 12 2)] (some (.int x2)) M hX cv_6_83 (c_X0_allow (sub_cs hcs (Nat.le_of_ble_eq_true rfl) (Nat.le_of_ble_eq_true rfl)) M (M.1 12 0) (M.1 12 1) (M.1 12 2) x2 h1) (hcs 5 (Nat.le_of_ble_eq_true rfl) (Nat.le_of_ble_eq_true rfl)) sh_5 rfl rfl rfl ⟨Nat.le_of_ble_eq_true rfl, Nat.le_of_ble_eq_true rfl⟩ (Nat.le_of_ble_eq_true rfl) dX6_placeIsAllowed_31 ?_
  show VV X 1 ad cs M 34 [(0, .ref (ad 1))] [.int x2]
  obtain ⟨g3, h⟩ := gd_e h
  obtain rfl := Option.some.inj h
  exact v_zret (pc := 34) hX hR g3 dX6_placeIsAllowed_34
set_option maxHeartbeats 4000000 in
set_option maxRecDepth 100000 in
theorem c_X10_oneIf {ad : Nat → Nat} {cs : List Nat} (M : Mm) (w0 : Int32) (q : Int32) (h : fX10_oneIf w0 = some q) : CT ad cs yX10_oneIf cX10_oneIf 1 (some .int) 0 0 [.int w0] M (some (.int q)) M := by
  refine CT.of RX10 (by decide +kernel) rfl (Nat.le_of_ble_eq_true rfl) (fun X hX hR => ?_)
  unfold fX10_oneIf at h
  show VV X 1 ad cs M 0 [(0, .int w0)] []
  refine v_iload_n (pc := 0) 0 hX dX10_oneIf_0 rfl ?_
  refine v_if_eq (pc := 1) (tgt := 8) hX dX10_oneIf_1 (by decide) (fun h1 => ?_) (fun h1 => ?_)
  · have h := if_t h h1
    refine v_iconst (pc := 8) hX dX10_oneIf_8 ic_0 ?_
    obtain rfl := Option.some.inj h
    exact v_iret (pc := 9) hX hR dX10_oneIf_9
  · have h := if_f h h1
    refine v_iconst (pc := 4) hX dX10_oneIf_4 ic_1 ?_
    refine v_goto (pc := 5) (tgt := 9) hX dX10_oneIf_5 (by decide) ?_
    obtain rfl := Option.some.inj h
    exact v_iret (pc := 9) hX hR dX10_oneIf_9
set_option maxHeartbeats 4000000 in
set_option maxRecDepth 100000 in
theorem c_X10_start {ad : Nat → Nat} {cs : List Nat} (hcs : ∀ k, 0 ≤ k → k < 67 → k ∈ cs) (M : Mm) (w1 : Int32) (w2 : Int32) (w3 : Int32) (w4 : Int32) (q : Int32 × Mm) (h : fX10_start M w1 w2 w3 w4 = some q) : CT ad cs yX10_start cX10_start 5 (some .int) 4 89 [.ref (ad 0), .int w1, .int w2, .int w3, .int w4] M (some (.int q.1)) q.2 := by
  refine CT.of RX10 (by decide +kernel) rfl (Nat.le_of_ble_eq_true rfl) (fun X hX hR => ?_)
  unfold fX10_start at h
  show VV X 5 ad cs M 0 [(0, .ref (ad 0)), (1, .int w1), (2, .int w2), (3, .int w3), (4, .int w4)] []
  refine v_aload_n (pc := 0) 0 hX dX10_start_0 rfl ?_
  refine v_getR (pc := 1) (t := 1) hX (hcs 0 (Nat.le_of_ble_eq_true rfl) (Nat.le_of_ble_eq_true rfl)) sh_0 fl_10_10 rfl dX10_start_1 ?_
  refine v_iload_n (pc := 4) 1 hX dX10_start_4 rfl ?_
  refine v_iload_n (pc := 5) 2 hX dX10_start_5 rfl ?_
  refine v_iload_n (pc := 6) 3 hX dX10_start_6 rfl ?_
  refine v_bipush (pc := 7) hX dX10_start_7 bp_m50 ?_
  refine v_bipush (pc := 9) hX dX10_start_9 bp_50 ?_
  obtain ⟨x2, h1, h⟩ := b1_e h
  refine v_callV (pc := 11) [.int w1, .int w2, .int w3, .int (-50), .int 50] (some (.int x2)) M hX cv_10_75 (c_X6_fit (sub_cs hcs (Nat.le_of_ble_eq_true rfl) (Nat.le_of_ble_eq_true rfl)) M w1 w2 w3 (-50) 50 x2 h1) (hcs 1 (Nat.le_of_ble_eq_true rfl) (Nat.le_of_ble_eq_true rfl)) sh_1 rfl rfl rfl ⟨Nat.le_of_ble_eq_true rfl, Nat.le_of_ble_eq_true rfl⟩ (Nat.le_of_ble_eq_true rfl) dX10_start_11 ?_
  show VV X 5 ad cs M 14 [(0, .ref (ad 0)), (1, .int w1), (2, .int w2), (3, .int w3), (4, .int w4)] [.int x2]
  refine v_if_eq (pc := 14) (tgt := 27) hX dX10_start_14 (by decide) (fun h3 => ?_) (fun h3 => ?_)
  · have h := if_t h h3
    refine v_ldc (pc := 27) hX kc_10_66 dX10_start_27 ?_
    obtain rfl := Option.some.inj h
    exact v_iret (pc := 29) hX hR dX10_start_29
  · have h := if_f h h3
    refine v_iload (pc := 17) 4 hX dX10_start_17 rfl ?_
    refine v_iconst (pc := 19) hX dX10_start_19 ic_0 ?_
    refine v_iconst (pc := 20) hX dX10_start_20 ic_4 ?_
    obtain ⟨x5, h4, h⟩ := b1_e h
    refine v_callS (pc := 21) [.int w4, .int 0, .int 4] (some (.int x5)) M hX cv_10_62 (c_X10_within M w4 0 4 x5 h4) rfl rfl ⟨Nat.le_of_ble_eq_true rfl, Nat.le_of_ble_eq_true rfl⟩ (Nat.le_of_ble_eq_true rfl) dX10_start_21 ?_
    show VV X 5 ad cs M 24 [(0, .ref (ad 0)), (1, .int w1), (2, .int w2), (3, .int w3), (4, .int w4)] [.int x5]
    refine v_if_ne (pc := 24) (tgt := 30) hX dX10_start_24 (by decide) (fun h6 => ?_) (fun h6 => ?_)
    · have h := if_f h h6
      refine v_aload_n (pc := 30) 0 hX dX10_start_30 rfl ?_
      refine v_getR (pc := 31) (t := 14) hX (hcs 0 (Nat.le_of_ble_eq_true rfl) (Nat.le_of_ble_eq_true rfl)) sh_0 fl_10_23 rfl dX10_start_31 ?_
      refine v_aload_n (pc := 34) 0 hX dX10_start_34 rfl ?_
      refine v_getR (pc := 35) (t := 1) hX (hcs 0 (Nat.le_of_ble_eq_true rfl) (Nat.le_of_ble_eq_true rfl)) sh_0 fl_10_10 rfl dX10_start_35 ?_
      obtain ⟨M8, h7, h⟩ := b1_e h
      refine v_callV (pc := 38) [.ref (ad 1)] none M8 hX cv_10_71 (c_X2_push (sub_cs hcs (Nat.le_of_ble_eq_true rfl) (Nat.le_of_ble_eq_true rfl)) M M8 h7) (hcs 14 (Nat.le_of_ble_eq_true rfl) (Nat.le_of_ble_eq_true rfl)) sh_14 rfl rfl rfl ⟨Nat.le_of_ble_eq_true rfl, Nat.le_of_ble_eq_true rfl⟩ (Nat.le_of_ble_eq_true rfl) dX10_start_38 ?_
      show VV X 5 ad cs M8 41 [(0, .ref (ad 0)), (1, .int w1), (2, .int w2), (3, .int w3), (4, .int w4)] []
      refine v_aload_n (pc := 41) 0 hX dX10_start_41 rfl ?_
      refine v_getR (pc := 42) (t := 1) hX (hcs 0 (Nat.le_of_ble_eq_true rfl) (Nat.le_of_ble_eq_true rfl)) sh_0 fl_10_10 rfl dX10_start_42 ?_
      refine v_getR (pc := 45) (t := 11) hX (hcs 1 (Nat.le_of_ble_eq_true rfl) (Nat.le_of_ble_eq_true rfl)) sh_1 fl_10_139 rfl dX10_start_45 ?_
      refine v_iload_n (pc := 48) 1 hX dX10_start_48 rfl ?_
      refine v_iload_n (pc := 49) 2 hX dX10_start_49 rfl ?_
      refine v_iload_n (pc := 50) 3 hX dX10_start_50 rfl ?_
      refine v_iconst (pc := 51) hX dX10_start_51 ic_1 ?_
      refine v_iload (pc := 52) 4 hX dX10_start_52 rfl ?_
      refine v_ishl (pc := 54) hX dX10_start_54 ?_
      obtain ⟨M10, h9, h⟩ := b1_e h
      refine v_callV (pc := 55) [.int w1, .int w2, .int w3, .int (1 <<< (w4 &&& 31))] none M10 hX cv_10_148 (c_X4_begin (sub_cs hcs (Nat.le_of_ble_eq_true rfl) (Nat.le_of_ble_eq_true rfl)) M8 w1 w2 w3 (1 <<< (w4 &&& 31)) M10 h9) (hcs 11 (Nat.le_of_ble_eq_true rfl) (Nat.le_of_ble_eq_true rfl)) sh_11 rfl rfl rfl ⟨Nat.le_of_ble_eq_true rfl, Nat.le_of_ble_eq_true rfl⟩ (Nat.le_of_ble_eq_true rfl) dX10_start_55 ?_
      show VV X 5 ad cs M10 58 [(0, .ref (ad 0)), (1, .int w1), (2, .int w2), (3, .int w3), (4, .int w4)] []
      refine v_aload_n (pc := 58) 0 hX dX10_start_58 rfl ?_
      refine v_getR (pc := 59) (t := 1) hX (hcs 0 (Nat.le_of_ble_eq_true rfl) (Nat.le_of_ble_eq_true rfl)) sh_0 fl_10_10 rfl dX10_start_59 ?_
      refine v_getR (pc := 62) (t := 8) hX (hcs 1 (Nat.le_of_ble_eq_true rfl) (Nat.le_of_ble_eq_true rfl)) sh_1 fl_10_125 rfl dX10_start_62 ?_
      obtain ⟨M12, h11, h⟩ := b1_e h
      refine v_callV (pc := 65) [] none M12 hX cv_10_151 (c_X1_forgetTaken (sub_cs hcs (Nat.le_of_ble_eq_true rfl) (Nat.le_of_ble_eq_true rfl)) M10 M12 h11) (hcs 8 (Nat.le_of_ble_eq_true rfl) (Nat.le_of_ble_eq_true rfl)) sh_8 rfl rfl rfl ⟨Nat.le_of_ble_eq_true rfl, Nat.le_of_ble_eq_true rfl⟩ (Nat.le_of_ble_eq_true rfl) dX10_start_65 ?_
      show VV X 5 ad cs M12 68 [(0, .ref (ad 0)), (1, .int w1), (2, .int w2), (3, .int w3), (4, .int w4)] []
      refine v_aload_n (pc := 68) 0 hX dX10_start_68 rfl ?_
      refine v_getR (pc := 69) (t := 1) hX (hcs 0 (Nat.le_of_ble_eq_true rfl) (Nat.le_of_ble_eq_true rfl)) sh_0 fl_10_10 rfl dX10_start_69 ?_
      obtain ⟨x14, h13, h⟩ := b1_e h
      refine v_callV (pc := 72) [] (some (.int x14)) M12 hX cv_10_117 (c_X6_placeIsAllowed (sub_cs hcs (Nat.le_of_ble_eq_true rfl) (Nat.le_of_ble_eq_true rfl)) M12 x14 h13) (hcs 1 (Nat.le_of_ble_eq_true rfl) (Nat.le_of_ble_eq_true rfl)) sh_1 rfl rfl rfl ⟨Nat.le_of_ble_eq_true rfl, Nat.le_of_ble_eq_true rfl⟩ (Nat.le_of_ble_eq_true rfl) dX10_start_72 ?_
      show VV X 5 ad cs M12 75 [(0, .ref (ad 0)), (1, .int w1), (2, .int w2), (3, .int w3), (4, .int w4)] [.int x14]
      obtain ⟨x16, h15, h⟩ := b1_e h
      refine v_callS (pc := 75) [.int x14] (some (.int x16)) M12 hX cv_10_121 (c_X10_oneIf M12 x14 x16 h15) rfl rfl ⟨Nat.le_of_ble_eq_true rfl, Nat.le_of_ble_eq_true rfl⟩ (Nat.le_of_ble_eq_true rfl) dX10_start_75 ?_
      show VV X 5 ad cs M12 78 [(0, .ref (ad 0)), (1, .int w1), (2, .int w2), (3, .int w3), (4, .int w4)] [.int x16]
      obtain rfl := Option.some.inj h
      exact v_iret (pc := 78) hX hR dX10_start_78
    · have h := if_t h h6
      refine v_ldc (pc := 27) hX kc_10_66 dX10_start_27 ?_
      obtain rfl := Option.some.inj h
      exact v_iret (pc := 29) hX hR dX10_start_29
set_option maxHeartbeats 4000000 in
set_option maxRecDepth 100000 in
theorem c_X10_order {ad : Nat → Nat} {cs : List Nat} (hcs : ∀ k, 0 ≤ k → k < 67 → k ∈ cs) (M : Mm) (w1 : Int32) (w2 : Int32) (q : Int32 × Mm) (h : fX10_order M w1 w2 = some q) : CT ad cs yX10_order cX10_order 4 (some .int) 4 89 [.ref (ad 0), .int w1, .int w2] M (some (.int q.1)) q.2 := by
  refine CT.of RX10 (by decide +kernel) rfl (Nat.le_of_ble_eq_true rfl) (fun X hX hR => ?_)
  unfold fX10_order at h
  show VV X 4 ad cs M 0 [(0, .ref (ad 0)), (1, .int w1), (2, .int w2)] []
  refine v_iload_n (pc := 0) 1 hX dX10_order_0 rfl ?_
  refine v_iconst (pc := 1) hX dX10_order_1 ic_0 ?_
  refine v_iconst (pc := 2) hX dX10_order_2 ic_2 ?_
  obtain ⟨x2, h1, h⟩ := b1_e h
  refine v_callS (pc := 3) [.int w1, .int 0, .int 2] (some (.int x2)) M hX cv_10_62 (c_X10_within M w1 0 2 x2 h1) rfl rfl ⟨Nat.le_of_ble_eq_true rfl, Nat.le_of_ble_eq_true rfl⟩ (Nat.le_of_ble_eq_true rfl) dX10_order_3 ?_
  show VV X 4 ad cs M 6 [(0, .ref (ad 0)), (1, .int w1), (2, .int w2)] [.int x2]
  refine v_if_eq (pc := 6) (tgt := 18) hX dX10_order_6 (by decide) (fun h3 => ?_) (fun h3 => ?_)
  · have h := if_t h h3
    refine v_ldc (pc := 18) hX kc_10_66 dX10_order_18 ?_
    obtain rfl := Option.some.inj h
    exact v_iret (pc := 20) hX hR dX10_order_20
  · have h := if_f h h3
    refine v_iload_n (pc := 9) 2 hX dX10_order_9 rfl ?_
    refine v_iconst (pc := 10) hX dX10_order_10 ic_0 ?_
    refine v_iconst (pc := 11) hX dX10_order_11 ic_1 ?_
    obtain ⟨x5, h4, h⟩ := b1_e h
    refine v_callS (pc := 12) [.int w2, .int 0, .int 1] (some (.int x5)) M hX cv_10_62 (c_X10_within M w2 0 1 x5 h4) rfl rfl ⟨Nat.le_of_ble_eq_true rfl, Nat.le_of_ble_eq_true rfl⟩ (Nat.le_of_ble_eq_true rfl) dX10_order_12 ?_
    show VV X 4 ad cs M 15 [(0, .ref (ad 0)), (1, .int w1), (2, .int w2)] [.int x5]
    refine v_if_ne (pc := 15) (tgt := 21) hX dX10_order_15 (by decide) (fun h6 => ?_) (fun h6 => ?_)
    · have h := if_f h h6
      refine v_bipush (pc := 21) hX dX10_order_21 bp_10 ?_
      refine v_aload_n (pc := 23) 0 hX dX10_order_23 rfl ?_
      refine v_getR (pc := 24) (t := 1) hX (hcs 0 (Nat.le_of_ble_eq_true rfl) (Nat.le_of_ble_eq_true rfl)) sh_0 fl_10_10 rfl dX10_order_24 ?_
      refine v_getI (pc := 27) hX (hcs 1 (Nat.le_of_ble_eq_true rfl) (Nat.le_of_ble_eq_true rfl)) sh_1 fl_10_154 rfl dX10_order_27 ?_
      refine v_imul (pc := 30) hX dX10_order_30 ?_
      refine v_aload_n (pc := 31) 0 hX dX10_order_31 rfl ?_
      refine v_getR (pc := 32) (t := 1) hX (hcs 0 (Nat.le_of_ble_eq_true rfl) (Nat.le_of_ble_eq_true rfl)) sh_0 fl_10_10 rfl dX10_order_32 ?_
      refine v_getI (pc := 35) hX (hcs 1 (Nat.le_of_ble_eq_true rfl) (Nat.le_of_ble_eq_true rfl)) sh_1 fl_10_157 rfl dX10_order_35 ?_
      refine v_iadd (pc := 38) hX dX10_order_38 ?_
      obtain ⟨x7, ex7, h⟩ := bd_e h
      refine v_top ex7 ?_
      refine v_istore_n (pc := 39) [(3, .int x7), (0, .ref (ad 0)), (1, .int w1), (2, .int w2)] hX dX10_order_39 (by decide) rfl ?_
      refine v_aload_n (pc := 40) 1 hX dX10_order_40 rfl ?_
      refine v_getR (pc := 41) (t := 14) hX (hcs 0 (Nat.le_of_ble_eq_true rfl) (Nat.le_of_ble_eq_true rfl)) sh_0 fl_10_23 rfl dX10_order_41 ?_
      refine v_aload_n (pc := 44) 1 hX dX10_order_44 rfl ?_
      refine v_getR (pc := 45) (t := 1) hX (hcs 0 (Nat.le_of_ble_eq_true rfl) (Nat.le_of_ble_eq_true rfl)) sh_0 fl_10_10 rfl dX10_order_45 ?_
      obtain ⟨M9, h8, h⟩ := b1_e h
      refine v_callV (pc := 48) [.ref (ad 1)] none M9 hX cv_10_71 (c_X2_push (sub_cs hcs (Nat.le_of_ble_eq_true rfl) (Nat.le_of_ble_eq_true rfl)) M M9 h8) (hcs 14 (Nat.le_of_ble_eq_true rfl) (Nat.le_of_ble_eq_true rfl)) sh_14 rfl rfl rfl ⟨Nat.le_of_ble_eq_true rfl, Nat.le_of_ble_eq_true rfl⟩ (Nat.le_of_ble_eq_true rfl) dX10_order_48 ?_
      show VV X 4 ad cs M9 51 [(3, .int x7), (0, .ref (ad 0)), (1, .int w1), (2, .int w2)] []
      refine v_aload_n (pc := 51) 1 hX dX10_order_51 rfl ?_
      refine v_getR (pc := 52) (t := 1) hX (hcs 0 (Nat.le_of_ble_eq_true rfl) (Nat.le_of_ble_eq_true rfl)) sh_0 fl_10_10 rfl dX10_order_52 ?_
      refine v_iload_n (pc := 55) 2 hX dX10_order_55 rfl ?_
      obtain ⟨M10, eM10, h⟩ := bd_e h
      refine v_putI (pc := 56) hX (hcs 1 (Nat.le_of_ble_eq_true rfl) (Nat.le_of_ble_eq_true rfl)) sh_1 pl_10_154 rfl dX10_order_56 eM10 ?_
      refine v_aload_n (pc := 59) 1 hX dX10_order_59 rfl ?_
      refine v_getR (pc := 60) (t := 1) hX (hcs 0 (Nat.le_of_ble_eq_true rfl) (Nat.le_of_ble_eq_true rfl)) sh_0 fl_10_10 rfl dX10_order_60 ?_
      refine v_iload_n (pc := 63) 3 hX dX10_order_63 rfl ?_
      obtain ⟨M11, eM11, h⟩ := bd_e h
      refine v_putI (pc := 64) hX (hcs 1 (Nat.le_of_ble_eq_true rfl) (Nat.le_of_ble_eq_true rfl)) sh_1 pl_10_157 rfl dX10_order_64 eM11 ?_
      refine v_iload_n (pc := 67) 0 hX dX10_order_67 rfl ?_
      obtain rfl := Option.some.inj h
      exact v_iret (pc := 68) hX hR dX10_order_68
    · have h := if_t h h6
      refine v_ldc (pc := 18) hX kc_10_66 dX10_order_18 ?_
      obtain rfl := Option.some.inj h
      exact v_iret (pc := 20) hX hR dX10_order_20
set_option maxHeartbeats 4000000 in
set_option maxRecDepth 100000 in
theorem c_X6_hasVariable {ad : Nat → Nat} {cs : List Nat} (hcs : ∀ k, 1 ≤ k → k < 2 → k ∈ cs) (M : Mm) (w1 : Int32) (q : Int32) (h : fX6_hasVariable M w1 = some q) : CT ad cs yX6_hasVariable cX6_hasVariable 2 (some .boolean) 1 22 [.ref (ad 1), .int w1] M (some (.int q)) M := by
  refine CT.of RX6 (by decide +kernel) rfl (Nat.le_of_ble_eq_true rfl) (fun X hX hR => ?_)
  unfold fX6_hasVariable at h
  show VV X 2 ad cs M 0 [(0, .ref (ad 1)), (1, .int w1)] []
  refine v_iload_n (pc := 0) 1 hX dX6_hasVariable_0 rfl ?_
  refine v_iconst (pc := 1) hX dX6_hasVariable_1 ic_0 ?_
  refine v_aload_n (pc := 2) 0 hX dX6_hasVariable_2 rfl ?_
  refine v_getI (pc := 3) hX (hcs 1 (Nat.le_of_ble_eq_true rfl) (Nat.le_of_ble_eq_true rfl)) sh_1 fl_6_39 rfl dX6_hasVariable_3 ?_
  refine v_iconst (pc := 6) hX dX6_hasVariable_6 ic_1 ?_
  refine v_isub (pc := 7) hX dX6_hasVariable_7 ?_
  obtain ⟨x2, h1, h⟩ := b1_e h
  refine v_callN (pc := 8) [.int w1, .int 0, .int ((M.1 1 0) - 1)] (some (.int x2)) M hX cv_6_75 (c_X10_within M w1 0 ((M.1 1 0) - 1) x2 h1) rfl rfl ⟨Nat.le_of_ble_eq_true rfl, Nat.le_of_ble_eq_true rfl⟩ (Nat.le_of_ble_eq_true rfl) dX6_hasVariable_8 ?_
  show VV X 2 ad cs M 11 [(0, .ref (ad 1)), (1, .int w1)] [.int x2]
  obtain ⟨g3, h⟩ := gd_e h
  obtain rfl := Option.some.inj h
  exact v_zret (pc := 11) hX hR g3 dX6_hasVariable_11
set_option maxHeartbeats 4000000 in
set_option maxRecDepth 100000 in
theorem c_X10_bound {ad : Nat → Nat} {cs : List Nat} (hcs : ∀ k, 0 ≤ k → k < 67 → k ∈ cs) (M : Mm) (w1 : Int32) (w2 : Int32) (w3 : Int32) (q : Int32 × Mm) (h : fX10_bound M w1 w2 w3 = some q) : CT ad cs yX10_bound cX10_bound 4 (some .int) 4 89 [.ref (ad 0), .int w1, .int w2, .int w3] M (some (.int q.1)) q.2 := by
  refine CT.of RX10 (by decide +kernel) rfl (Nat.le_of_ble_eq_true rfl) (fun X hX hR => ?_)
  unfold fX10_bound at h
  show VV X 4 ad cs M 0 [(0, .ref (ad 0)), (1, .int w1), (2, .int w2), (3, .int w3)] []
  refine v_aload_n (pc := 0) 0 hX dX10_bound_0 rfl ?_
  refine v_getR (pc := 1) (t := 1) hX (hcs 0 (Nat.le_of_ble_eq_true rfl) (Nat.le_of_ble_eq_true rfl)) sh_0 fl_10_10 rfl dX10_bound_1 ?_
  refine v_iload_n (pc := 4) 1 hX dX10_bound_4 rfl ?_
  obtain ⟨x2, h1, h⟩ := b1_e h
  refine v_callV (pc := 5) [.int w1] (some (.int x2)) M hX cv_10_101 (c_X6_hasVariable (sub_cs hcs (Nat.le_of_ble_eq_true rfl) (Nat.le_of_ble_eq_true rfl)) M w1 x2 h1) (hcs 1 (Nat.le_of_ble_eq_true rfl) (Nat.le_of_ble_eq_true rfl)) sh_1 rfl rfl rfl ⟨Nat.le_of_ble_eq_true rfl, Nat.le_of_ble_eq_true rfl⟩ (Nat.le_of_ble_eq_true rfl) dX10_bound_5 ?_
  show VV X 4 ad cs M 8 [(0, .ref (ad 0)), (1, .int w1), (2, .int w2), (3, .int w3)] [.int x2]
  refine v_if_eq (pc := 8) (tgt := 32) hX dX10_bound_8 (by decide) (fun h3 => ?_) (fun h3 => ?_)
  · have h := if_t h h3
    refine v_ldc (pc := 32) hX kc_10_66 dX10_bound_32 ?_
    obtain rfl := Option.some.inj h
    exact v_iret (pc := 34) hX hR dX10_bound_34
  · have h := if_f h h3
    refine v_iload_n (pc := 11) 2 hX dX10_bound_11 rfl ?_
    refine v_bipush (pc := 12) hX dX10_bound_12 bp_m50 ?_
    refine v_bipush (pc := 14) hX dX10_bound_14 bp_50 ?_
    obtain ⟨x5, h4, h⟩ := b1_e h
    refine v_callS (pc := 16) [.int w2, .int (-50), .int 50] (some (.int x5)) M hX cv_10_62 (c_X10_within M w2 (-50) 50 x5 h4) rfl rfl ⟨Nat.le_of_ble_eq_true rfl, Nat.le_of_ble_eq_true rfl⟩ (Nat.le_of_ble_eq_true rfl) dX10_bound_16 ?_
    show VV X 4 ad cs M 19 [(0, .ref (ad 0)), (1, .int w1), (2, .int w2), (3, .int w3)] [.int x5]
    refine v_if_eq (pc := 19) (tgt := 32) hX dX10_bound_19 (by decide) (fun h6 => ?_) (fun h6 => ?_)
    · have h := if_t h h6
      refine v_ldc (pc := 32) hX kc_10_66 dX10_bound_32 ?_
      obtain rfl := Option.some.inj h
      exact v_iret (pc := 34) hX hR dX10_bound_34
    · have h := if_f h h6
      refine v_iload_n (pc := 22) 3 hX dX10_bound_22 rfl ?_
      refine v_iload_n (pc := 23) 2 hX dX10_bound_23 rfl ?_
      refine v_bipush (pc := 24) hX dX10_bound_24 bp_50 ?_
      obtain ⟨x8, h7, h⟩ := b1_e h
      refine v_callS (pc := 26) [.int w3, .int w2, .int 50] (some (.int x8)) M hX cv_10_62 (c_X10_within M w3 w2 50 x8 h7) rfl rfl ⟨Nat.le_of_ble_eq_true rfl, Nat.le_of_ble_eq_true rfl⟩ (Nat.le_of_ble_eq_true rfl) dX10_bound_26 ?_
      show VV X 4 ad cs M 29 [(0, .ref (ad 0)), (1, .int w1), (2, .int w2), (3, .int w3)] [.int x8]
      refine v_if_ne (pc := 29) (tgt := 35) hX dX10_bound_29 (by decide) (fun h9 => ?_) (fun h9 => ?_)
      · have h := if_f h h9
        refine v_aload_n (pc := 35) 0 hX dX10_bound_35 rfl ?_
        refine v_getR (pc := 36) (t := 14) hX (hcs 0 (Nat.le_of_ble_eq_true rfl) (Nat.le_of_ble_eq_true rfl)) sh_0 fl_10_23 rfl dX10_bound_36 ?_
        refine v_aload_n (pc := 39) 0 hX dX10_bound_39 rfl ?_
        refine v_getR (pc := 40) (t := 1) hX (hcs 0 (Nat.le_of_ble_eq_true rfl) (Nat.le_of_ble_eq_true rfl)) sh_0 fl_10_10 rfl dX10_bound_40 ?_
        obtain ⟨M11, h10, h⟩ := b1_e h
        refine v_callV (pc := 43) [.ref (ad 1)] none M11 hX cv_10_71 (c_X2_push (sub_cs hcs (Nat.le_of_ble_eq_true rfl) (Nat.le_of_ble_eq_true rfl)) M M11 h10) (hcs 14 (Nat.le_of_ble_eq_true rfl) (Nat.le_of_ble_eq_true rfl)) sh_14 rfl rfl rfl ⟨Nat.le_of_ble_eq_true rfl, Nat.le_of_ble_eq_true rfl⟩ (Nat.le_of_ble_eq_true rfl) dX10_bound_43 ?_
        show VV X 4 ad cs M11 46 [(0, .ref (ad 0)), (1, .int w1), (2, .int w2), (3, .int w3)] []
        refine v_aload_n (pc := 46) 0 hX dX10_bound_46 rfl ?_
        refine v_getR (pc := 47) (t := 1) hX (hcs 0 (Nat.le_of_ble_eq_true rfl) (Nat.le_of_ble_eq_true rfl)) sh_0 fl_10_10 rfl dX10_bound_47 ?_
        refine v_getR (pc := 50) (t := 5) hX (hcs 1 (Nat.le_of_ble_eq_true rfl) (Nat.le_of_ble_eq_true rfl)) sh_1 fl_10_105 rfl dX10_bound_50 ?_
        refine v_getR (pc := 53) (t := 6) hX (hcs 5 (Nat.le_of_ble_eq_true rfl) (Nat.le_of_ble_eq_true rfl)) sh_5 fl_10_109 rfl dX10_bound_53 ?_
        refine v_iload_n (pc := 56) 1 hX dX10_bound_56 rfl ?_
        refine v_iload_n (pc := 57) 2 hX dX10_bound_57 rfl ?_
        obtain ⟨g12, h⟩ := gd_e h
        obtain ⟨M13, eM13, h⟩ := bd_e h
        refine v_iast (pc := 58) hX (hcs 6 (Nat.le_of_ble_eq_true rfl) (Nat.le_of_ble_eq_true rfl)) sh_6 g12 rfl dX10_bound_58 eM13 ?_
        refine v_aload_n (pc := 59) 0 hX dX10_bound_59 rfl ?_
        refine v_getR (pc := 60) (t := 1) hX (hcs 0 (Nat.le_of_ble_eq_true rfl) (Nat.le_of_ble_eq_true rfl)) sh_0 fl_10_10 rfl dX10_bound_60 ?_
        refine v_getR (pc := 63) (t := 5) hX (hcs 1 (Nat.le_of_ble_eq_true rfl) (Nat.le_of_ble_eq_true rfl)) sh_1 fl_10_105 rfl dX10_bound_63 ?_
        refine v_getR (pc := 66) (t := 7) hX (hcs 5 (Nat.le_of_ble_eq_true rfl) (Nat.le_of_ble_eq_true rfl)) sh_5 fl_10_114 rfl dX10_bound_66 ?_
        refine v_iload_n (pc := 69) 1 hX dX10_bound_69 rfl ?_
        refine v_iload_n (pc := 70) 3 hX dX10_bound_70 rfl ?_
        obtain ⟨M14, eM14, h⟩ := bd_e h
        refine v_iast (pc := 71) hX (hcs 7 (Nat.le_of_ble_eq_true rfl) (Nat.le_of_ble_eq_true rfl)) sh_7 g12 rfl dX10_bound_71 eM14 ?_
        refine v_aload_n (pc := 72) 0 hX dX10_bound_72 rfl ?_
        refine v_getR (pc := 73) (t := 1) hX (hcs 0 (Nat.le_of_ble_eq_true rfl) (Nat.le_of_ble_eq_true rfl)) sh_0 fl_10_10 rfl dX10_bound_73 ?_
        obtain ⟨x16, h15, h⟩ := b1_e h
        refine v_callV (pc := 76) [] (some (.int x16)) M14 hX cv_10_117 (c_X6_placeIsAllowed (sub_cs hcs (Nat.le_of_ble_eq_true rfl) (Nat.le_of_ble_eq_true rfl)) M14 x16 h15) (hcs 1 (Nat.le_of_ble_eq_true rfl) (Nat.le_of_ble_eq_true rfl)) sh_1 rfl rfl rfl ⟨Nat.le_of_ble_eq_true rfl, Nat.le_of_ble_eq_true rfl⟩ (Nat.le_of_ble_eq_true rfl) dX10_bound_76 ?_
        show VV X 4 ad cs M14 79 [(0, .ref (ad 0)), (1, .int w1), (2, .int w2), (3, .int w3)] [.int x16]
        obtain ⟨x18, h17, h⟩ := b1_e h
        refine v_callS (pc := 79) [.int x16] (some (.int x18)) M14 hX cv_10_121 (c_X10_oneIf M14 x16 x18 h17) rfl rfl ⟨Nat.le_of_ble_eq_true rfl, Nat.le_of_ble_eq_true rfl⟩ (Nat.le_of_ble_eq_true rfl) dX10_bound_79 ?_
        show VV X 4 ad cs M14 82 [(0, .ref (ad 0)), (1, .int w1), (2, .int w2), (3, .int w3)] [.int x18]
        obtain rfl := Option.some.inj h
        exact v_iret (pc := 82) hX hR dX10_bound_82
      · have h := if_t h h9
        refine v_ldc (pc := 32) hX kc_10_66 dX10_bound_32 ?_
        obtain rfl := Option.some.inj h
        exact v_iret (pc := 34) hX hR dX10_bound_34
set_option maxHeartbeats 4000000 in
set_option maxRecDepth 100000 in
theorem c_X10_boundOf {ad : Nat → Nat} {cs : List Nat} (hcs : ∀ k, 0 ≤ k → k < 8 → k ∈ cs) (M : Mm) (w1 : Int32) (q : Int32) (h : fX10_boundOf M w1 = some q) : CT ad cs yX10_boundOf cX10_boundOf 2 (some .int) 1 22 [.ref (ad 0), .int w1] M (some (.int q)) M := by
  refine CT.of RX10 (by decide +kernel) rfl (Nat.le_of_ble_eq_true rfl) (fun X hX hR => ?_)
  unfold fX10_boundOf at h
  show VV X 2 ad cs M 0 [(0, .ref (ad 0)), (1, .int w1)] []
  refine v_iload_n (pc := 0) 1 hX dX10_boundOf_0 rfl ?_
  refine v_bipush (pc := 1) hX dX10_boundOf_1 bp_10 ?_
  refine v_bipush (pc := 3) hX dX10_boundOf_3 bp_9 ?_
  refine v_aload_n (pc := 5) 0 hX dX10_boundOf_5 rfl ?_
  refine v_getR (pc := 6) (t := 1) hX (hcs 0 (Nat.le_of_ble_eq_true rfl) (Nat.le_of_ble_eq_true rfl)) sh_0 fl_10_10 rfl dX10_boundOf_6 ?_
  refine v_getI (pc := 9) hX (hcs 1 (Nat.le_of_ble_eq_true rfl) (Nat.le_of_ble_eq_true rfl)) sh_1 fl_10_67 rfl dX10_boundOf_9 ?_
  refine v_iadd (pc := 12) hX dX10_boundOf_12 ?_
  obtain ⟨x2, h1, h⟩ := b1_e h
  refine v_callS (pc := 13) [.int w1, .int 10, .int (9 + (M.1 1 0))] (some (.int x2)) M hX cv_10_62 (c_X10_within M w1 10 (9 + (M.1 1 0)) x2 h1) rfl rfl ⟨Nat.le_of_ble_eq_true rfl, Nat.le_of_ble_eq_true rfl⟩ (Nat.le_of_ble_eq_true rfl) dX10_boundOf_13 ?_
  show VV X 2 ad cs M 16 [(0, .ref (ad 0)), (1, .int w1)] [.int x2]
  refine v_if_eq (pc := 16) (tgt := 35) hX dX10_boundOf_16 (by decide) (fun h3 => ?_) (fun h3 => ?_)
  · have h := if_t h h3
    refine v_iload_n (pc := 35) 1 hX dX10_boundOf_35 rfl ?_
    refine v_bipush (pc := 36) hX dX10_boundOf_36 bp_20 ?_
    refine v_bipush (pc := 38) hX dX10_boundOf_38 bp_19 ?_
    refine v_aload_n (pc := 40) 0 hX dX10_boundOf_40 rfl ?_
    refine v_getR (pc := 41) (t := 1) hX (hcs 0 (Nat.le_of_ble_eq_true rfl) (Nat.le_of_ble_eq_true rfl)) sh_0 fl_10_10 rfl dX10_boundOf_41 ?_
    refine v_getI (pc := 44) hX (hcs 1 (Nat.le_of_ble_eq_true rfl) (Nat.le_of_ble_eq_true rfl)) sh_1 fl_10_67 rfl dX10_boundOf_44 ?_
    refine v_iadd (pc := 47) hX dX10_boundOf_47 ?_
    obtain ⟨x5, h4, h⟩ := b1_e h
    refine v_callS (pc := 48) [.int w1, .int 20, .int (19 + (M.1 1 0))] (some (.int x5)) M hX cv_10_62 (c_X10_within M w1 20 (19 + (M.1 1 0)) x5 h4) rfl rfl ⟨Nat.le_of_ble_eq_true rfl, Nat.le_of_ble_eq_true rfl⟩ (Nat.le_of_ble_eq_true rfl) dX10_boundOf_48 ?_
    show VV X 2 ad cs M 51 [(0, .ref (ad 0)), (1, .int w1)] [.int x5]
    refine v_if_eq (pc := 51) (tgt := 70) hX dX10_boundOf_51 (by decide) (fun h6 => ?_) (fun h6 => ?_)
    · have h := if_t h h6
      refine v_ldc (pc := 70) hX kc_10_66 dX10_boundOf_70 ?_
      obtain rfl := Option.some.inj h
      exact v_iret (pc := 72) hX hR dX10_boundOf_72
    · have h := if_f h h6
      refine v_aload_n (pc := 54) 0 hX dX10_boundOf_54 rfl ?_
      refine v_getR (pc := 55) (t := 1) hX (hcs 0 (Nat.le_of_ble_eq_true rfl) (Nat.le_of_ble_eq_true rfl)) sh_0 fl_10_10 rfl dX10_boundOf_55 ?_
      refine v_getR (pc := 58) (t := 5) hX (hcs 1 (Nat.le_of_ble_eq_true rfl) (Nat.le_of_ble_eq_true rfl)) sh_1 fl_10_105 rfl dX10_boundOf_58 ?_
      refine v_getR (pc := 61) (t := 7) hX (hcs 5 (Nat.le_of_ble_eq_true rfl) (Nat.le_of_ble_eq_true rfl)) sh_5 fl_10_114 rfl dX10_boundOf_61 ?_
      refine v_iload_n (pc := 64) 1 hX dX10_boundOf_64 rfl ?_
      refine v_bipush (pc := 65) hX dX10_boundOf_65 bp_20 ?_
      refine v_isub (pc := 67) hX dX10_boundOf_67 ?_
      obtain ⟨g7, h⟩ := gd_e h
      refine v_iald (pc := 68) hX (hcs 7 (Nat.le_of_ble_eq_true rfl) (Nat.le_of_ble_eq_true rfl)) sh_7 g7 rfl dX10_boundOf_68 ?_
      obtain rfl := Option.some.inj h
      exact v_iret (pc := 69) hX hR dX10_boundOf_69
  · have h := if_f h h3
    refine v_aload_n (pc := 19) 0 hX dX10_boundOf_19 rfl ?_
    refine v_getR (pc := 20) (t := 1) hX (hcs 0 (Nat.le_of_ble_eq_true rfl) (Nat.le_of_ble_eq_true rfl)) sh_0 fl_10_10 rfl dX10_boundOf_20 ?_
    refine v_getR (pc := 23) (t := 5) hX (hcs 1 (Nat.le_of_ble_eq_true rfl) (Nat.le_of_ble_eq_true rfl)) sh_1 fl_10_105 rfl dX10_boundOf_23 ?_
    refine v_getR (pc := 26) (t := 6) hX (hcs 5 (Nat.le_of_ble_eq_true rfl) (Nat.le_of_ble_eq_true rfl)) sh_5 fl_10_109 rfl dX10_boundOf_26 ?_
    refine v_iload_n (pc := 29) 1 hX dX10_boundOf_29 rfl ?_
    refine v_bipush (pc := 30) hX dX10_boundOf_30 bp_10 ?_
    refine v_isub (pc := 32) hX dX10_boundOf_32 ?_
    obtain ⟨g8, h⟩ := gd_e h
    refine v_iald (pc := 33) hX (hcs 6 (Nat.le_of_ble_eq_true rfl) (Nat.le_of_ble_eq_true rfl)) sh_6 g8 rfl dX10_boundOf_33 ?_
    obtain rfl := Option.some.inj h
    exact v_iret (pc := 34) hX hR dX10_boundOf_34
set_option maxHeartbeats 4000000 in
set_option maxRecDepth 100000 in
theorem c_X10_count {ad : Nat → Nat} {cs : List Nat} (hcs : ∀ k, 0 ≤ k → k < 81 → k ∈ cs) (M : Mm) (w1 : Int32) (q : Int32) (h : fX10_count M w1 = some q) : CT ad cs yX10_count cX10_count 2 (some .int) 2 43 [.ref (ad 0), .int w1] M (some (.int q)) M := by
  refine CT.of RX10 (by decide +kernel) rfl (Nat.le_of_ble_eq_true rfl) (fun X hX hR => ?_)
  unfold fX10_count at h
  show VV X 2 ad cs M 0 [(0, .ref (ad 0)), (1, .int w1)] []
  refine v_iload_n (pc := 0) 1 hX dX10_count_0 rfl ?_
  by_cases h1 : w1 = 0
  · have h := if_t h h1
    refine v_tableIn (pc := 1) (tgt := 48) (off := 47) hX dX10_count_1 (by rw [h1]; decide) (by rw [h1]; decide) (by rw [h1]; decide) (by decide) ?_
    refine v_aload_n (pc := 48) 0 hX dX10_count_48 rfl ?_
    refine v_getR (pc := 49) (t := 1) hX (hcs 0 (Nat.le_of_ble_eq_true rfl) (Nat.le_of_ble_eq_true rfl)) sh_0 fl_10_10 rfl dX10_count_49 ?_
    refine v_getI (pc := 52) hX (hcs 1 (Nat.le_of_ble_eq_true rfl) (Nat.le_of_ble_eq_true rfl)) sh_1 fl_10_67 rfl dX10_count_52 ?_
    obtain rfl := Option.some.inj h
    exact v_iret (pc := 55) hX hR dX10_count_55
  · have h := if_f h h1
    by_cases h2 : w1 = 1
    · have h := if_t h h2
      refine v_tableIn (pc := 1) (tgt := 56) (off := 55) hX dX10_count_1 (by rw [h2]; decide) (by rw [h2]; decide) (by rw [h2]; decide) (by decide) ?_
      refine v_aload_n (pc := 56) 0 hX dX10_count_56 rfl ?_
      refine v_getR (pc := 57) (t := 1) hX (hcs 0 (Nat.le_of_ble_eq_true rfl) (Nat.le_of_ble_eq_true rfl)) sh_0 fl_10_10 rfl dX10_count_57 ?_
      refine v_getR (pc := 60) (t := 2) hX (hcs 1 (Nat.le_of_ble_eq_true rfl) (Nat.le_of_ble_eq_true rfl)) sh_1 fl_10_79 rfl dX10_count_60 ?_
      refine v_getI (pc := 63) hX (hcs 2 (Nat.le_of_ble_eq_true rfl) (Nat.le_of_ble_eq_true rfl)) sh_2 fl_10_83 rfl dX10_count_63 ?_
      obtain rfl := Option.some.inj h
      exact v_iret (pc := 66) hX hR dX10_count_66
    · have h := if_f h h2
      by_cases h3 : w1 = 2
      · have h := if_t h h3
        refine v_tableIn (pc := 1) (tgt := 67) (off := 66) hX dX10_count_1 (by rw [h3]; decide) (by rw [h3]; decide) (by rw [h3]; decide) (by decide) ?_
        refine v_aload_n (pc := 67) 0 hX dX10_count_67 rfl ?_
        refine v_getR (pc := 68) (t := 1) hX (hcs 0 (Nat.le_of_ble_eq_true rfl) (Nat.le_of_ble_eq_true rfl)) sh_0 fl_10_10 rfl dX10_count_68 ?_
        refine v_getR (pc := 71) (t := 8) hX (hcs 1 (Nat.le_of_ble_eq_true rfl) (Nat.le_of_ble_eq_true rfl)) sh_1 fl_10_125 rfl dX10_count_71 ?_
        refine v_getI (pc := 74) hX (hcs 8 (Nat.le_of_ble_eq_true rfl) (Nat.le_of_ble_eq_true rfl)) sh_8 fl_10_134 rfl dX10_count_74 ?_
        obtain rfl := Option.some.inj h
        exact v_iret (pc := 77) hX hR dX10_count_77
      · have h := if_f h h3
        by_cases h4 : w1 = 3
        · have h := if_t h h4
          refine v_tableIn (pc := 1) (tgt := 78) (off := 77) hX dX10_count_1 (by rw [h4]; decide) (by rw [h4]; decide) (by rw [h4]; decide) (by decide) ?_
          refine v_aload_n (pc := 78) 0 hX dX10_count_78 rfl ?_
          refine v_getR (pc := 79) (t := 1) hX (hcs 0 (Nat.le_of_ble_eq_true rfl) (Nat.le_of_ble_eq_true rfl)) sh_0 fl_10_10 rfl dX10_count_79 ?_
          refine v_getI (pc := 82) hX (hcs 1 (Nat.le_of_ble_eq_true rfl) (Nat.le_of_ble_eq_true rfl)) sh_1 fl_10_154 rfl dX10_count_82 ?_
          obtain rfl := Option.some.inj h
          exact v_iret (pc := 85) hX hR dX10_count_85
        · have h := if_f h h4
          by_cases h5 : w1 = 4
          · have h := if_t h h5
            refine v_tableIn (pc := 1) (tgt := 86) (off := 85) hX dX10_count_1 (by rw [h5]; decide) (by rw [h5]; decide) (by rw [h5]; decide) (by decide) ?_
            refine v_aload_n (pc := 86) 0 hX dX10_count_86 rfl ?_
            refine v_getR (pc := 87) (t := 1) hX (hcs 0 (Nat.le_of_ble_eq_true rfl) (Nat.le_of_ble_eq_true rfl)) sh_0 fl_10_10 rfl dX10_count_87 ?_
            refine v_getI (pc := 90) hX (hcs 1 (Nat.le_of_ble_eq_true rfl) (Nat.le_of_ble_eq_true rfl)) sh_1 fl_10_157 rfl dX10_count_90 ?_
            obtain rfl := Option.some.inj h
            exact v_iret (pc := 93) hX hR dX10_count_93
          · have h := if_f h h5
            by_cases h6 : w1 = 5
            · have h := if_t h h6
              refine v_tableIn (pc := 1) (tgt := 94) (off := 93) hX dX10_count_1 (by rw [h6]; decide) (by rw [h6]; decide) (by rw [h6]; decide) (by decide) ?_
              refine v_aload_n (pc := 94) 0 hX dX10_count_94 rfl ?_
              refine v_getR (pc := 95) (t := 14) hX (hcs 0 (Nat.le_of_ble_eq_true rfl) (Nat.le_of_ble_eq_true rfl)) sh_0 fl_10_23 rfl dX10_count_95 ?_
              refine v_getI (pc := 98) hX (hcs 14 (Nat.le_of_ble_eq_true rfl) (Nat.le_of_ble_eq_true rfl)) sh_14 fl_10_212 rfl dX10_count_98 ?_
              obtain rfl := Option.some.inj h
              exact v_iret (pc := 101) hX hR dX10_count_101
            · have h := if_f h h6
              by_cases h7 : w1 = 6
              · have h := if_t h h7
                refine v_tableIn (pc := 1) (tgt := 102) (off := 101) hX dX10_count_1 (by rw [h7]; decide) (by rw [h7]; decide) (by rw [h7]; decide) (by decide) ?_
                refine v_aload_n (pc := 102) 0 hX dX10_count_102 rfl ?_
                refine v_getR (pc := 103) (t := 80) hX (hcs 0 (Nat.le_of_ble_eq_true rfl) (Nat.le_of_ble_eq_true rfl)) sh_0 fl_10_37 rfl dX10_count_103 ?_
                refine v_getI (pc := 106) hX (hcs 80 (Nat.le_of_ble_eq_true rfl) (Nat.le_of_ble_eq_true rfl)) sh_80 fl_10_213 rfl dX10_count_106 ?_
                obtain rfl := Option.some.inj h
                exact v_iret (pc := 109) hX hR dX10_count_109
              · have h := if_f h h7
                by_cases h8 : w1 = 7
                · have h := if_t h h8
                  refine v_tableIn (pc := 1) (tgt := 110) (off := 109) hX dX10_count_1 (by rw [h8]; decide) (by rw [h8]; decide) (by rw [h8]; decide) (by decide) ?_
                  refine v_aload_n (pc := 110) 0 hX dX10_count_110 rfl ?_
                  refine v_getI (pc := 111) hX (hcs 0 (Nat.le_of_ble_eq_true rfl) (Nat.le_of_ble_eq_true rfl)) sh_0 fl_10_30 rfl dX10_count_111 ?_
                  obtain ⟨x10, h9, h⟩ := b1_e h
                  refine v_callS (pc := 114) [.int (M.1 0 3)] (some (.int x10)) M hX cv_10_121 (c_X10_oneIf M (M.1 0 3) x10 h9) rfl rfl ⟨Nat.le_of_ble_eq_true rfl, Nat.le_of_ble_eq_true rfl⟩ (Nat.le_of_ble_eq_true rfl) dX10_count_114 ?_
                  show VV X 2 ad cs M 117 [(0, .ref (ad 0)), (1, .int w1)] [.int x10]
                  obtain rfl := Option.some.inj h
                  exact v_iret (pc := 117) hX hR dX10_count_117
                · have h := if_f h h8
                  have sw1 : w1.toInt < 0 ∨ 7 < w1.toInt := by
                    have q0 := lv_neT h1 (a := 0) (by decide)
                    have q1 := lv_neT h2 (a := 1) (by decide)
                    have q2 := lv_neT h3 (a := 2) (by decide)
                    have q3 := lv_neT h4 (a := 3) (by decide)
                    have q4 := lv_neT h5 (a := 4) (by decide)
                    have q5 := lv_neT h6 (a := 5) (by decide)
                    have q6 := lv_neT h7 (a := 6) (by decide)
                    have q7 := lv_neT h8 (a := 7) (by decide)
                    omega
                  refine v_tableOut (pc := 1) (tgt := 118) hX dX10_count_1 sw1 (by decide) ?_
                  refine v_aload_n (pc := 118) 0 hX dX10_count_118 rfl ?_
                  refine v_iload_n (pc := 119) 1 hX dX10_count_119 rfl ?_
                  obtain ⟨x12, h11, h⟩ := b1_e h
                  refine v_callV (pc := 120) [.int w1] (some (.int x12)) M hX cv_10_216 (c_X10_boundOf (sub_cs hcs (Nat.le_of_ble_eq_true rfl) (Nat.le_of_ble_eq_true rfl)) M w1 x12 h11) (hcs 0 (Nat.le_of_ble_eq_true rfl) (Nat.le_of_ble_eq_true rfl)) sh_0 rfl rfl rfl ⟨Nat.le_of_ble_eq_true rfl, Nat.le_of_ble_eq_true rfl⟩ (Nat.le_of_ble_eq_true rfl) dX10_count_120 ?_
                  show VV X 2 ad cs M 123 [(0, .ref (ad 0)), (1, .int w1)] [.int x12]
                  obtain rfl := Option.some.inj h
                  exact v_iret (pc := 123) hX hR dX10_count_123
set_option maxHeartbeats 4000000 in
set_option maxRecDepth 100000 in
theorem c_X1_has {ad : Nat → Nat} {cs : List Nat} (hcs : ∀ k, 8 ≤ k → k < 10 → k ∈ cs) (M : Mm) (w1 : Int32) (w2 : Int32) (w3 : Int32) (q : Int32) (h : fX1_has M w1 w2 w3 = some q) : CT ad cs yX1_has cX1_has 6 (some .boolean) 0 0 [.ref (ad 8), .int w1, .int w2, .int w3] M (some (.int q)) M := by
  refine CT.of RX1 (by decide +kernel) rfl (Nat.le_of_ble_eq_true rfl) (fun X hX hR => ?_)
  unfold fX1_has at h
  show VV X 6 ad cs M 0 [(0, .ref (ad 8)), (1, .int w1), (2, .int w2), (3, .int w3)] []
  refine v_iconst (pc := 0) hX dX1_has_0 ic_0 ?_
  refine v_istore (pc := 1) [(4, .int 0), (0, .ref (ad 8)), (1, .int w1), (2, .int w2), (3, .int w3)] hX dX1_has_1 (by decide) rfl ?_
  have L13 := v_itr (fX1_has_L3 M w1 w2 w3) (fun z => VV X 6 ad cs M 3 [(0, .ref (ad 8)), (1, .int w1), (2, .int w2), (3, .int w3), (4, .int z)] []) (Sum.elim (fun z => VV X 6 ad cs M 55 [] []) (fun z => VV X 6 ad cs M 63 [] [])) (by
    rintro x1 q h hK
    unfold fX1_has_L3 at h
    show VV X 6 ad cs M 3 [(0, .ref (ad 8)), (1, .int w1), (2, .int w2), (3, .int w3), (4, .int x1)] []
    refine v_iload (pc := 3) 4 hX dX1_has_3 rfl ?_
    refine v_aload_n (pc := 5) 0 hX dX1_has_5 rfl ?_
    refine v_getI (pc := 6) hX (hcs 8 (Nat.le_of_ble_eq_true rfl) (Nat.le_of_ble_eq_true rfl)) sh_8 fl_1_18 rfl dX1_has_6 ?_
    refine v_icmp_ge (pc := 9) (tgt := 63) hX dX1_has_9 (by decide) (fun h2 => ?_) (fun h2 => ?_)
    · have h := if_t h h2
      obtain rfl := Option.some.inj h
      exact v_sub [] rfl hK
    · have h := if_f h h2
      refine v_iconst (pc := 12) hX dX1_has_12 ic_3 ?_
      refine v_iload (pc := 13) 4 hX dX1_has_13 rfl ?_
      refine v_imul (pc := 15) hX dX1_has_15 ?_
      obtain ⟨x3, ex3, h⟩ := bd_e h
      refine v_top ex3 ?_
      refine v_istore (pc := 16) [(5, .int x3), (0, .ref (ad 8)), (1, .int w1), (2, .int w2), (3, .int w3), (4, .int x1)] hX dX1_has_16 (by decide) rfl ?_
      refine v_aload_n (pc := 18) 1 hX dX1_has_18 rfl ?_
      refine v_getR (pc := 19) (t := 9) hX (hcs 8 (Nat.le_of_ble_eq_true rfl) (Nat.le_of_ble_eq_true rfl)) sh_8 fl_1_9 rfl dX1_has_19 ?_
      refine v_iload (pc := 22) 0 hX dX1_has_22 rfl ?_
      obtain ⟨g4, h⟩ := gd_e h
      refine v_iald (pc := 24) hX (hcs 9 (Nat.le_of_ble_eq_true rfl) (Nat.le_of_ble_eq_true rfl)) sh_9 g4 rfl dX1_has_24 ?_
      refine v_iload_n (pc := 25) 2 hX dX1_has_25 rfl ?_
      obtain ⟨k5, ek5, h⟩ := bd_e h
      have K6 : ∀ (_ : Unit), k5 () = some q → VV X 6 ad cs M 57 [(0, .ref (ad 8)), (1, .int w1), (2, .int w2), (3, .int w3), (4, .int x1)] [] := by
        intro _ h
        subst ek5
        obtain ⟨x7, ex7, h⟩ := bd_e h
        refine v_iinc (v := x7) (pc := 57) 4 [(4, .int x7), (0, .ref (ad 8)), (1, .int w1), (2, .int w2), (3, .int w3)] hX dX1_has_57 rfl (ex7.trans (by rw [ic_1])) (by decide) rfl ?_
        refine v_goto (pc := 60) (tgt := 3) hX dX1_has_60 (by decide) ?_
        obtain rfl := Option.some.inj h
        exact v_sub [1, 2, 3, 4, 0] rfl hK
      refine v_icmp_ne (pc := 26) (tgt := 57) hX dX1_has_26 (by decide) (fun h8 => ?_) (fun h8 => ?_)
      · have h := if_f h h8
        exact v_sub [1, 2, 3, 4, 5] rfl (K6 () h)
      · have h := if_t h h8
        refine v_aload_n (pc := 29) 1 hX dX1_has_29 rfl ?_
        refine v_getR (pc := 30) (t := 9) hX (hcs 8 (Nat.le_of_ble_eq_true rfl) (Nat.le_of_ble_eq_true rfl)) sh_8 fl_1_9 rfl dX1_has_30 ?_
        refine v_iload (pc := 33) 0 hX dX1_has_33 rfl ?_
        refine v_iconst (pc := 35) hX dX1_has_35 ic_1 ?_
        refine v_iadd (pc := 36) hX dX1_has_36 ?_
        obtain ⟨g9, h⟩ := gd_e h
        refine v_iald (pc := 37) hX (hcs 9 (Nat.le_of_ble_eq_true rfl) (Nat.le_of_ble_eq_true rfl)) sh_9 g9 rfl dX1_has_37 ?_
        refine v_iload_n (pc := 38) 3 hX dX1_has_38 rfl ?_
        refine v_icmp_ne (pc := 39) (tgt := 57) hX dX1_has_39 (by decide) (fun h10 => ?_) (fun h10 => ?_)
        · have h := if_f h h10
          exact v_sub [1, 2, 3, 4, 5] rfl (K6 () h)
        · have h := if_t h h10
          refine v_aload_n (pc := 42) 1 hX dX1_has_42 rfl ?_
          refine v_getR (pc := 43) (t := 9) hX (hcs 8 (Nat.le_of_ble_eq_true rfl) (Nat.le_of_ble_eq_true rfl)) sh_8 fl_1_9 rfl dX1_has_43 ?_
          refine v_iload (pc := 46) 0 hX dX1_has_46 rfl ?_
          refine v_iconst (pc := 48) hX dX1_has_48 ic_2 ?_
          refine v_iadd (pc := 49) hX dX1_has_49 ?_
          obtain ⟨g11, h⟩ := gd_e h
          refine v_iald (pc := 50) hX (hcs 9 (Nat.le_of_ble_eq_true rfl) (Nat.le_of_ble_eq_true rfl)) sh_9 g11 rfl dX1_has_50 ?_
          refine v_iload_n (pc := 51) 4 hX dX1_has_51 rfl ?_
          refine v_icmp_ne (pc := 52) (tgt := 57) hX dX1_has_52 (by decide) (fun h12 => ?_) (fun h12 => ?_)
          · have h := if_f h h12
            exact v_sub [1, 2, 3, 4, 5] rfl (K6 () h)
          · have h := if_t h h12
            obtain rfl := Option.some.inj h
            exact v_sub [] rfl hK
  )
  rcases bs_e h with ⟨_, h14, h⟩ | ⟨_, h14, h⟩
  · refine v_sub [1, 2, 3, 4, 0] rfl ?_
    refine L13 1000 _ _ h14 ?_
    show VV X 6 ad cs M 55 [] []
    refine v_iconst (pc := 55) hX dX1_has_55 ic_1 ?_
    obtain rfl := Option.some.inj h
    exact v_zret (pc := 56) hX hR (Or.inr rfl) dX1_has_56
  · refine v_sub [1, 2, 3, 4, 0] rfl ?_
    refine L13 1000 _ _ h14 ?_
    show VV X 6 ad cs M 63 [] []
    refine v_iconst (pc := 63) hX dX1_has_63 ic_0 ?_
    obtain rfl := Option.some.inj h
    exact v_zret (pc := 64) hX hR (Or.inl rfl) dX1_has_64
set_option maxHeartbeats 4000000 in
set_option maxRecDepth 100000 in
theorem c_X10_direction {ad : Nat → Nat} {cs : List Nat} (hcs : ∀ k, 0 ≤ k → k < 67 → k ∈ cs) (M : Mm) (w1 : Int32) (w2 : Int32) (w3 : Int32) (q : Int32 × Mm) (h : fX10_direction M w1 w2 w3 = some q) : CT ad cs yX10_direction cX10_direction 4 (some .int) 4 89 [.ref (ad 0), .int w1, .int w2, .int w3] M (some (.int q.1)) q.2 := by
  refine CT.of RX10 (by decide +kernel) rfl (Nat.le_of_ble_eq_true rfl) (fun X hX hR => ?_)
  unfold fX10_direction at h
  show VV X 4 ad cs M 0 [(0, .ref (ad 0)), (1, .int w1), (2, .int w2), (3, .int w3)] []
  refine v_aload_n (pc := 0) 0 hX dX10_direction_0 rfl ?_
  refine v_getR (pc := 1) (t := 1) hX (hcs 0 (Nat.le_of_ble_eq_true rfl) (Nat.le_of_ble_eq_true rfl)) sh_0 fl_10_10 rfl dX10_direction_1 ?_
  refine v_iload_n (pc := 4) 1 hX dX10_direction_4 rfl ?_
  refine v_iload_n (pc := 5) 2 hX dX10_direction_5 rfl ?_
  refine v_iload_n (pc := 6) 3 hX dX10_direction_6 rfl ?_
  refine v_bipush (pc := 7) hX dX10_direction_7 bp_m3 ?_
  refine v_iconst (pc := 9) hX dX10_direction_9 ic_3 ?_
  obtain ⟨x2, h1, h⟩ := b1_e h
  refine v_callV (pc := 10) [.int w1, .int w2, .int w3, .int (-3), .int 3] (some (.int x2)) M hX cv_10_75 (c_X6_fit (sub_cs hcs (Nat.le_of_ble_eq_true rfl) (Nat.le_of_ble_eq_true rfl)) M w1 w2 w3 (-3) 3 x2 h1) (hcs 1 (Nat.le_of_ble_eq_true rfl) (Nat.le_of_ble_eq_true rfl)) sh_1 rfl rfl rfl ⟨Nat.le_of_ble_eq_true rfl, Nat.le_of_ble_eq_true rfl⟩ (Nat.le_of_ble_eq_true rfl) dX10_direction_10 ?_
  show VV X 4 ad cs M 13 [(0, .ref (ad 0)), (1, .int w1), (2, .int w2), (3, .int w3)] [.int x2]
  refine v_if_eq (pc := 13) (tgt := 28) hX dX10_direction_13 (by decide) (fun h3 => ?_) (fun h3 => ?_)
  · have h := if_t h h3
    refine v_ldc (pc := 28) hX kc_10_66 dX10_direction_28 ?_
    obtain rfl := Option.some.inj h
    exact v_iret (pc := 30) hX hR dX10_direction_30
  · have h := if_f h h3
    refine v_iload_n (pc := 16) 1 hX dX10_direction_16 rfl ?_
    obtain ⟨k4, ek4, h⟩ := bd_e h
    have K5 : ∀ (_ : Unit), k4 () = some q → VV X 4 ad cs M 31 [(0, .ref (ad 0)), (1, .int w1), (2, .int w2), (3, .int w3)] [] := by
      intro _ h
      subst ek4
      refine v_aload_n (pc := 31) 0 hX dX10_direction_31 rfl ?_
      refine v_getR (pc := 32) (t := 1) hX (hcs 0 (Nat.le_of_ble_eq_true rfl) (Nat.le_of_ble_eq_true rfl)) sh_0 fl_10_10 rfl dX10_direction_32 ?_
      refine v_getR (pc := 35) (t := 8) hX (hcs 1 (Nat.le_of_ble_eq_true rfl) (Nat.le_of_ble_eq_true rfl)) sh_1 fl_10_125 rfl dX10_direction_35 ?_
      refine v_iload_n (pc := 38) 1 hX dX10_direction_38 rfl ?_
      refine v_iload_n (pc := 39) 2 hX dX10_direction_39 rfl ?_
      refine v_iload_n (pc := 40) 3 hX dX10_direction_40 rfl ?_
      obtain ⟨x7, h6, h⟩ := b1_e h
      refine v_callV (pc := 41) [.int w1, .int w2, .int w3] (some (.int x7)) M hX cv_10_129 (c_X1_has (sub_cs hcs (Nat.le_of_ble_eq_true rfl) (Nat.le_of_ble_eq_true rfl)) M w1 w2 w3 x7 h6) (hcs 8 (Nat.le_of_ble_eq_true rfl) (Nat.le_of_ble_eq_true rfl)) sh_8 rfl rfl rfl ⟨Nat.le_of_ble_eq_true rfl, Nat.le_of_ble_eq_true rfl⟩ (Nat.le_of_ble_eq_true rfl) dX10_direction_41 ?_
      show VV X 4 ad cs M 44 [(0, .ref (ad 0)), (1, .int w1), (2, .int w2), (3, .int w3)] [.int x7]
      refine v_if_eq (pc := 44) (tgt := 50) hX dX10_direction_44 (by decide) (fun h8 => ?_) (fun h8 => ?_)
      · have h := if_t h h8
        refine v_aload_n (pc := 50) 0 hX dX10_direction_50 rfl ?_
        refine v_getR (pc := 51) (t := 1) hX (hcs 0 (Nat.le_of_ble_eq_true rfl) (Nat.le_of_ble_eq_true rfl)) sh_0 fl_10_10 rfl dX10_direction_51 ?_
        refine v_getR (pc := 54) (t := 8) hX (hcs 1 (Nat.le_of_ble_eq_true rfl) (Nat.le_of_ble_eq_true rfl)) sh_1 fl_10_125 rfl dX10_direction_54 ?_
        refine v_getI (pc := 57) hX (hcs 8 (Nat.le_of_ble_eq_true rfl) (Nat.le_of_ble_eq_true rfl)) sh_8 fl_10_134 rfl dX10_direction_57 ?_
        refine v_bipush (pc := 60) hX dX10_direction_60 bp_8 ?_
        refine v_icmp_lt (pc := 62) (tgt := 68) hX dX10_direction_62 (by decide) (fun h9 => ?_) (fun h9 => ?_)
        · have h := if_t h h9
          refine v_aload_n (pc := 68) 0 hX dX10_direction_68 rfl ?_
          refine v_getR (pc := 69) (t := 14) hX (hcs 0 (Nat.le_of_ble_eq_true rfl) (Nat.le_of_ble_eq_true rfl)) sh_0 fl_10_23 rfl dX10_direction_69 ?_
          refine v_aload_n (pc := 72) 0 hX dX10_direction_72 rfl ?_
          refine v_getR (pc := 73) (t := 1) hX (hcs 0 (Nat.le_of_ble_eq_true rfl) (Nat.le_of_ble_eq_true rfl)) sh_0 fl_10_10 rfl dX10_direction_73 ?_
          obtain ⟨M11, h10, h⟩ := b1_e h
          refine v_callV (pc := 76) [.ref (ad 1)] none M11 hX cv_10_71 (c_X2_push (sub_cs hcs (Nat.le_of_ble_eq_true rfl) (Nat.le_of_ble_eq_true rfl)) M M11 h10) (hcs 14 (Nat.le_of_ble_eq_true rfl) (Nat.le_of_ble_eq_true rfl)) sh_14 rfl rfl rfl ⟨Nat.le_of_ble_eq_true rfl, Nat.le_of_ble_eq_true rfl⟩ (Nat.le_of_ble_eq_true rfl) dX10_direction_76 ?_
          show VV X 4 ad cs M11 79 [(0, .ref (ad 0)), (1, .int w1), (2, .int w2), (3, .int w3)] []
          refine v_aload_n (pc := 79) 0 hX dX10_direction_79 rfl ?_
          refine v_getR (pc := 80) (t := 1) hX (hcs 0 (Nat.le_of_ble_eq_true rfl) (Nat.le_of_ble_eq_true rfl)) sh_0 fl_10_10 rfl dX10_direction_80 ?_
          refine v_getR (pc := 83) (t := 8) hX (hcs 1 (Nat.le_of_ble_eq_true rfl) (Nat.le_of_ble_eq_true rfl)) sh_1 fl_10_125 rfl dX10_direction_83 ?_
          refine v_iload_n (pc := 86) 1 hX dX10_direction_86 rfl ?_
          refine v_iload_n (pc := 87) 2 hX dX10_direction_87 rfl ?_
          refine v_iload_n (pc := 88) 3 hX dX10_direction_88 rfl ?_
          obtain ⟨M13, h12, h⟩ := b1_e h
          refine v_callV (pc := 89) [.int w1, .int w2, .int w3] none M13 hX cv_10_135 (c_X1_add (sub_cs hcs (Nat.le_of_ble_eq_true rfl) (Nat.le_of_ble_eq_true rfl)) M11 w1 w2 w3 M13 h12) (hcs 8 (Nat.le_of_ble_eq_true rfl) (Nat.le_of_ble_eq_true rfl)) sh_8 rfl rfl rfl ⟨Nat.le_of_ble_eq_true rfl, Nat.le_of_ble_eq_true rfl⟩ (Nat.le_of_ble_eq_true rfl) dX10_direction_89 ?_
          show VV X 4 ad cs M13 92 [(0, .ref (ad 0)), (1, .int w1), (2, .int w2), (3, .int w3)] []
          refine v_aload_n (pc := 92) 0 hX dX10_direction_92 rfl ?_
          refine v_getR (pc := 93) (t := 1) hX (hcs 0 (Nat.le_of_ble_eq_true rfl) (Nat.le_of_ble_eq_true rfl)) sh_0 fl_10_10 rfl dX10_direction_93 ?_
          refine v_getR (pc := 96) (t := 8) hX (hcs 1 (Nat.le_of_ble_eq_true rfl) (Nat.le_of_ble_eq_true rfl)) sh_1 fl_10_125 rfl dX10_direction_96 ?_
          refine v_getI (pc := 99) hX (hcs 8 (Nat.le_of_ble_eq_true rfl) (Nat.le_of_ble_eq_true rfl)) sh_8 fl_10_134 rfl dX10_direction_99 ?_
          refine v_iconst (pc := 102) hX dX10_direction_102 ic_1 ?_
          refine v_isub (pc := 103) hX dX10_direction_103 ?_
          obtain rfl := Option.some.inj h
          exact v_iret (pc := 104) hX hR dX10_direction_104
        · have h := if_f h h9
          refine v_ldc (pc := 65) hX kc_10_88 dX10_direction_65 ?_
          obtain rfl := Option.some.inj h
          exact v_iret (pc := 67) hX hR dX10_direction_67
      · have h := if_f h h8
        refine v_ldc (pc := 47) hX kc_10_93 dX10_direction_47 ?_
        obtain rfl := Option.some.inj h
        exact v_iret (pc := 49) hX hR dX10_direction_49
    refine v_if_ne (pc := 17) (tgt := 31) hX dX10_direction_17 (by decide) (fun h14 => ?_) (fun h14 => ?_)
    · have h := if_f h h14
      exact v_sub [0, 1, 2, 3] rfl (K5 () h)
    · have h := if_t h h14
      refine v_iload_n (pc := 20) 2 hX dX10_direction_20 rfl ?_
      refine v_if_ne (pc := 21) (tgt := 31) hX dX10_direction_21 (by decide) (fun h15 => ?_) (fun h15 => ?_)
      · have h := if_f h h15
        exact v_sub [0, 1, 2, 3] rfl (K5 () h)
      · have h := if_t h h15
        refine v_iload_n (pc := 24) 3 hX dX10_direction_24 rfl ?_
        refine v_if_ne (pc := 25) (tgt := 31) hX dX10_direction_25 (by decide) (fun h16 => ?_) (fun h16 => ?_)
        · have h := if_f h h16
          exact v_sub [0, 1, 2, 3] rfl (K5 () h)
        · have h := if_t h h16
          refine v_ldc (pc := 28) hX kc_10_66 dX10_direction_28 ?_
          obtain rfl := Option.some.inj h
          exact v_iret (pc := 30) hX hR dX10_direction_30
set_option maxHeartbeats 4000000 in
set_option maxRecDepth 100000 in
theorem c_X10_closeGap {ad : Nat → Nat} {cs : List Nat} (a n : Nat) (m_a : a ∈ cs) (s_a : shp a = .inr (0, n)) (M : Mm) (w1 : Int32) (w2 : Int32) (w3 : Int32) (q : Mm) (h : fX10_closeGap a n M w1 w2 w3 = some q) : CT ad cs yX10_closeGap cX10_closeGap 5 none 0 0 [.ref (ad a), .int w1, .int w2, .int w3] M none q := by
  refine CT.of RX10 (by decide +kernel) rfl (Nat.le_of_ble_eq_true rfl) (fun X hX hR => ?_)
  unfold fX10_closeGap at h
  show VV X 5 ad cs M 0 [(0, .ref (ad a)), (1, .int w1), (2, .int w2), (3, .int w3)] []
  refine v_iload_n (pc := 0) 1 hX dX10_closeGap_0 rfl ?_
  refine v_iload_n (pc := 1) 2 hX dX10_closeGap_1 rfl ?_
  refine v_imul (pc := 2) hX dX10_closeGap_2 ?_
  obtain ⟨x1, ex1, h⟩ := bd_e h
  refine v_top ex1 ?_
  refine v_istore (pc := 3) [(4, .int x1), (0, .ref (ad a)), (1, .int w1), (2, .int w2), (3, .int w3)] hX dX10_closeGap_3 (by decide) rfl ?_
  have L9 := v_itr (fX10_closeGap_L5 w1 w3 n a) (fun z => VV X 5 ad cs z.2 5 [(0, .ref (ad a)), (1, .int w1), (3, .int w3), (4, .int z.1)] []) (fun z => VV X 5 ad cs z 31 [] []) (by
    rintro ⟨x2, M3⟩ q h hK
    unfold fX10_closeGap_L5 at h
    have h := u2_b h
    show VV X 5 ad cs M3 5 [(0, .ref (ad a)), (1, .int w1), (3, .int w3), (4, .int x2)] []
    refine v_iload (pc := 5) 3 hX dX10_closeGap_5 rfl ?_
    refine v_iload_n (pc := 7) 1 hX dX10_closeGap_7 rfl ?_
    refine v_iadd (pc := 8) hX dX10_closeGap_8 ?_
    refine v_iload_n (pc := 9) 1 hX dX10_closeGap_9 rfl ?_
    refine v_iload_n (pc := 10) 2 hX dX10_closeGap_10 rfl ?_
    refine v_imul (pc := 11) hX dX10_closeGap_11 ?_
    refine v_icmp_ge (pc := 12) (tgt := 31) hX dX10_closeGap_12 (by decide) (fun h4 => ?_) (fun h4 => ?_)
    · have h := if_t h h4
      obtain rfl := Option.some.inj h
      exact v_sub [] rfl hK
    · have h := if_f h h4
      refine v_aload_n (pc := 15) 0 hX dX10_closeGap_15 rfl ?_
      refine v_iload (pc := 16) 3 hX dX10_closeGap_16 rfl ?_
      refine v_aload_n (pc := 18) 0 hX dX10_closeGap_18 rfl ?_
      refine v_iload (pc := 19) 3 hX dX10_closeGap_19 rfl ?_
      refine v_iload_n (pc := 21) 1 hX dX10_closeGap_21 rfl ?_
      refine v_iadd (pc := 22) hX dX10_closeGap_22 ?_
      obtain ⟨g5, h⟩ := gd_e h
      refine v_iald (pc := 23) hX m_a s_a g5 rfl dX10_closeGap_23 ?_
      obtain ⟨g6, h⟩ := gd_e h
      obtain ⟨M7, eM7, h⟩ := bd_e h
      refine v_iast (pc := 24) hX m_a s_a g6 rfl dX10_closeGap_24 eM7 ?_
      obtain ⟨x8, ex8, h⟩ := bd_e h
      refine v_iinc (v := x8) (pc := 25) 3 [(4, .int x8), (0, .ref (ad a)), (1, .int w1), (3, .int w3)] hX dX10_closeGap_25 rfl (ex8.trans (by rw [ic_1])) (by decide) rfl ?_
      refine v_goto (pc := 28) (tgt := 5) hX dX10_closeGap_28 (by decide) ?_
      obtain rfl := Option.some.inj h
      exact v_sub [1, 2, 3, 0] rfl hK
  )
  obtain ⟨M10, h11, h⟩ := b1_e h
  refine v_sub [1, 2, 4, 0] rfl ?_
  refine L9 1000 _ _ h11 ?_
  show VV X 5 ad cs M10 31 [] []
  obtain rfl := Option.some.inj h
  exact v_vret (pc := 31) hX hR dX10_closeGap_31
set_option maxHeartbeats 4000000 in
set_option maxRecDepth 100000 in
theorem c_X1_remove {ad : Nat → Nat} {cs : List Nat} (hcs : ∀ k, 8 ≤ k → k < 11 → k ∈ cs) (M : Mm) (w1 : Int32) (q : Mm) (h : fX1_remove M w1 = some q) : CT ad cs yX1_remove cX1_remove 2 none 1 24 [.ref (ad 8), .int w1] M none q := by
  refine CT.of RX1 (by decide +kernel) rfl (Nat.le_of_ble_eq_true rfl) (fun X hX hR => ?_)
  unfold fX1_remove at h
  show VV X 2 ad cs M 0 [(0, .ref (ad 8)), (1, .int w1)] []
  refine v_iload_n (pc := 0) 1 hX dX1_remove_0 rfl ?_
  refine v_if_lt (pc := 1) (tgt := 12) hX dX1_remove_1 (by decide) (fun h1 => ?_) (fun h1 => ?_)
  · have h := if_t h h1
    obtain rfl := Option.some.inj h
    exact v_vret (pc := 12) hX hR dX1_remove_12
  · have h := if_f h h1
    refine v_iload_n (pc := 4) 1 hX dX1_remove_4 rfl ?_
    refine v_aload_n (pc := 5) 0 hX dX1_remove_5 rfl ?_
    refine v_getI (pc := 6) hX (hcs 8 (Nat.le_of_ble_eq_true rfl) (Nat.le_of_ble_eq_true rfl)) sh_8 fl_1_18 rfl dX1_remove_6 ?_
    refine v_icmp_lt (pc := 9) (tgt := 13) hX dX1_remove_9 (by decide) (fun h2 => ?_) (fun h2 => ?_)
    · have h := if_t h h2
      refine v_aload_n (pc := 13) 0 hX dX1_remove_13 rfl ?_
      refine v_getR (pc := 14) (t := 10) hX (hcs 8 (Nat.le_of_ble_eq_true rfl) (Nat.le_of_ble_eq_true rfl)) sh_8 fl_1_15 rfl dX1_remove_14 ?_
      refine v_iconst (pc := 17) hX dX1_remove_17 ic_1 ?_
      refine v_iload_n (pc := 18) 1 hX dX1_remove_18 rfl ?_
      refine v_aload_n (pc := 19) 0 hX dX1_remove_19 rfl ?_
      refine v_getI (pc := 20) hX (hcs 8 (Nat.le_of_ble_eq_true rfl) (Nat.le_of_ble_eq_true rfl)) sh_8 fl_1_18 rfl dX1_remove_20 ?_
      obtain ⟨M4, h3, h⟩ := b1_e h
      refine v_callN (pc := 23) [.ref (ad 10), .int 1, .int w1, .int (M.1 8 0)] none M4 hX cv_1_36 (c_X10_closeGap 10 8 (hcs 10 (Nat.le_of_ble_eq_true rfl) (Nat.le_of_ble_eq_true rfl)) sh_10 M 1 w1 (M.1 8 0) M4 h3) rfl rfl ⟨Nat.le_of_ble_eq_true rfl, Nat.le_of_ble_eq_true rfl⟩ (Nat.le_of_ble_eq_true rfl) dX1_remove_23 ?_
      show VV X 2 ad cs M4 26 [(0, .ref (ad 8)), (1, .int w1)] []
      refine v_aload_n (pc := 26) 0 hX dX1_remove_26 rfl ?_
      refine v_getR (pc := 27) (t := 9) hX (hcs 8 (Nat.le_of_ble_eq_true rfl) (Nat.le_of_ble_eq_true rfl)) sh_8 fl_1_9 rfl dX1_remove_27 ?_
      refine v_iconst (pc := 30) hX dX1_remove_30 ic_3 ?_
      refine v_iload_n (pc := 31) 1 hX dX1_remove_31 rfl ?_
      refine v_aload_n (pc := 32) 0 hX dX1_remove_32 rfl ?_
      refine v_getI (pc := 33) hX (hcs 8 (Nat.le_of_ble_eq_true rfl) (Nat.le_of_ble_eq_true rfl)) sh_8 fl_1_18 rfl dX1_remove_33 ?_
      obtain ⟨M6, h5, h⟩ := b1_e h
      refine v_callN (pc := 36) [.ref (ad 9), .int 3, .int w1, .int (M4.1 8 0)] none M6 hX cv_1_36 (c_X10_closeGap 9 24 (hcs 9 (Nat.le_of_ble_eq_true rfl) (Nat.le_of_ble_eq_true rfl)) sh_9 M4 3 w1 (M4.1 8 0) M6 h5) rfl rfl ⟨Nat.le_of_ble_eq_true rfl, Nat.le_of_ble_eq_true rfl⟩ (Nat.le_of_ble_eq_true rfl) dX1_remove_36 ?_
      show VV X 2 ad cs M6 39 [(0, .ref (ad 8)), (1, .int w1)] []
      refine v_aload_n (pc := 39) 0 hX dX1_remove_39 rfl ?_
      refine v_dup (pc := 40) hX dX1_remove_40 rfl ?_
      refine v_getI (pc := 41) hX (hcs 8 (Nat.le_of_ble_eq_true rfl) (Nat.le_of_ble_eq_true rfl)) sh_8 fl_1_18 rfl dX1_remove_41 ?_
      refine v_iconst (pc := 44) hX dX1_remove_44 ic_1 ?_
      refine v_isub (pc := 45) hX dX1_remove_45 ?_
      obtain ⟨M7, eM7, h⟩ := bd_e h
      refine v_putI (pc := 46) hX (hcs 8 (Nat.le_of_ble_eq_true rfl) (Nat.le_of_ble_eq_true rfl)) sh_8 pl_1_18 rfl dX1_remove_46 eM7 ?_
      obtain rfl := Option.some.inj h
      exact v_vret (pc := 49) hX hR dX1_remove_49
    · have h := if_f h h2
      obtain rfl := Option.some.inj h
      exact v_vret (pc := 12) hX hR dX1_remove_12
