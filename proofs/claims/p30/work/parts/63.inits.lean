/-! ===== the constructors ===== -/
set_option maxRecDepth 100000 in
set_option maxHeartbeats 4000000 in
theorem c_X7_init  : CI 2 [2, 3, 4] yX7_init cX7_init 1 1 12 2 40 7 [.int 0, .null, .null] MM0 := by
  refine CI.of RX7 (by decide +kernel) rfl rfl (Nat.le_of_ble_eq_true rfl) (fun X cy h0 hX hN hR => ?_)
  refine n_aload_n (pc := 0) 0 hX dX7_init_0 rfl ?_
  refine n_obj (pc := 1) hX ⟨(mw 42 (by decide +kernel) (by decide +kernel)), (mw 29 (by decide +kernel) (by decide +kernel)), (mw 30 (by decide +kernel) (by decide +kernel))⟩ (Nat.le_of_ble_eq_true rfl) (Nat.le_of_ble_eq_true rfl) dX7_init_1 ?_
  refine n_aload_n (pc := 4) 0 hX dX7_init_4 rfl ?_
  refine n_bipush (pc := 5) hX dX7_init_5 bp_10 ?_
  refine n_newI (pc := 7) (N := 10) hX ac_int nn_10 ix_10 (Nat.le_of_ble_eq_true rfl) ⟨Nat.le_of_ble_eq_true rfl, Nat.le_of_ble_eq_true rfl⟩ dX7_init_7 (fun q1 => ?_)
  show NN X 1 ((h0, .inr (7, [.int 0, .null, .null])) :: [(q1, .inl (cy.1, 10, .inl (fun _ => 0)))]) 1 10 9 [(0, .ref h0)] [.ref q1, .ref h0]
  refine n_putF (pc := 9) hX hN ff_7_9 (Nat.le_of_ble_eq_true rfl) dX7_init_9 ?_
  show NN X 1 ((h0, .inr (7, [.int 0, .ref q1, .null])) :: [(q1, .inl (cy.1, 10, .inl (fun _ => 0)))]) 1 10 12 [(0, .ref h0)] []
  refine n_aload_n (pc := 12) 0 hX dX7_init_12 rfl ?_
  refine n_bipush (pc := 13) hX dX7_init_13 bp_30 ?_
  refine n_newI (pc := 15) (N := 30) hX ac_int nn_30 ix_30 (Nat.le_of_ble_eq_true rfl) ⟨Nat.le_of_ble_eq_true rfl, Nat.le_of_ble_eq_true rfl⟩ dX7_init_15 (fun q2 => ?_)
  show NN X 1 ((h0, .inr (7, [.int 0, .ref q1, .null])) :: ([(q1, .inl (cy.1, 10, .inl (fun _ => 0)))] ++ [(q2, .inl (cy.1, 30, .inl (fun _ => 0)))])) 2 40 17 [(0, .ref h0)] [.ref q2, .ref h0]
  refine n_putF (pc := 17) hX hN ff_7_15 (Nat.le_of_ble_eq_true rfl) dX7_init_17 ?_
  show NN X 1 ((h0, .inr (7, [.int 0, .ref q1, .ref q2])) :: ([(q1, .inl (cy.1, 10, .inl (fun _ => 0)))] ++ [(q2, .inl (cy.1, 30, .inl (fun _ => 0)))])) 2 40 20 [(0, .ref h0)] []
  exact n_ret (pc := 20) (fun c => if c < 3 then h0 else if c < 4 then q1 else q2) hX hR rfl rfl dX7_init_20
set_option maxRecDepth 100000 in
set_option maxHeartbeats 4000000 in
theorem c_X0_init  : CI 5 [5, 6, 7] yX0_init cX0_init 1 1 12 2 6 0 [.null, .null] MM0 := by
  refine CI.of RX0 (by decide +kernel) rfl rfl (Nat.le_of_ble_eq_true rfl) (fun X cy h0 hX hN hR => ?_)
  refine n_aload_n (pc := 0) 0 hX dX0_init_0 rfl ?_
  refine n_obj (pc := 1) hX ⟨(mw 61 (by decide +kernel) (by decide +kernel)), (mw 29 (by decide +kernel) (by decide +kernel)), (mw 30 (by decide +kernel) (by decide +kernel))⟩ (Nat.le_of_ble_eq_true rfl) (Nat.le_of_ble_eq_true rfl) dX0_init_1 ?_
  refine n_aload_n (pc := 4) 0 hX dX0_init_4 rfl ?_
  refine n_iconst (pc := 5) hX dX0_init_5 ic_3 ?_
  refine n_newI (pc := 6) (N := 3) hX ac_int nn_3 ix_3 (Nat.le_of_ble_eq_true rfl) ⟨Nat.le_of_ble_eq_true rfl, Nat.le_of_ble_eq_true rfl⟩ dX0_init_6 (fun q1 => ?_)
  show NN X 1 ((h0, .inr (0, [.null, .null])) :: [(q1, .inl (cy.1, 3, .inl (fun _ => 0)))]) 1 3 8 [(0, .ref h0)] [.ref q1, .ref h0]
  refine n_putF (pc := 8) hX hN ff_0_9 (Nat.le_of_ble_eq_true rfl) dX0_init_8 ?_
  show NN X 1 ((h0, .inr (0, [.ref q1, .null])) :: [(q1, .inl (cy.1, 3, .inl (fun _ => 0)))]) 1 3 11 [(0, .ref h0)] []
  refine n_aload_n (pc := 11) 0 hX dX0_init_11 rfl ?_
  refine n_iconst (pc := 12) hX dX0_init_12 ic_3 ?_
  refine n_newI (pc := 13) (N := 3) hX ac_int nn_3 ix_3 (Nat.le_of_ble_eq_true rfl) ⟨Nat.le_of_ble_eq_true rfl, Nat.le_of_ble_eq_true rfl⟩ dX0_init_13 (fun q2 => ?_)
  show NN X 1 ((h0, .inr (0, [.ref q1, .null])) :: ([(q1, .inl (cy.1, 3, .inl (fun _ => 0)))] ++ [(q2, .inl (cy.1, 3, .inl (fun _ => 0)))])) 2 6 15 [(0, .ref h0)] [.ref q2, .ref h0]
  refine n_putF (pc := 15) hX hN ff_0_15 (Nat.le_of_ble_eq_true rfl) dX0_init_15 ?_
  show NN X 1 ((h0, .inr (0, [.ref q1, .ref q2])) :: ([(q1, .inl (cy.1, 3, .inl (fun _ => 0)))] ++ [(q2, .inl (cy.1, 3, .inl (fun _ => 0)))])) 2 6 18 [(0, .ref h0)] []
  exact n_ret (pc := 18) (fun c => if c < 6 then h0 else if c < 7 then q1 else q2) hX hR rfl rfl dX0_init_18
set_option maxRecDepth 100000 in
set_option maxHeartbeats 4000000 in
theorem c_X1_init  : CI 8 [8, 9, 10] yX1_init cX1_init 1 1 12 2 32 1 [.int 0, .null, .null] MM0 := by
  refine CI.of RX1 (by decide +kernel) rfl rfl (Nat.le_of_ble_eq_true rfl) (fun X cy h0 hX hN hR => ?_)
  refine n_aload_n (pc := 0) 0 hX dX1_init_0 rfl ?_
  refine n_obj (pc := 1) hX ⟨(mw 76 (by decide +kernel) (by decide +kernel)), (mw 29 (by decide +kernel) (by decide +kernel)), (mw 30 (by decide +kernel) (by decide +kernel))⟩ (Nat.le_of_ble_eq_true rfl) (Nat.le_of_ble_eq_true rfl) dX1_init_1 ?_
  refine n_aload_n (pc := 4) 0 hX dX1_init_4 rfl ?_
  refine n_bipush (pc := 5) hX dX1_init_5 bp_24 ?_
  refine n_newI (pc := 7) (N := 24) hX ac_int nn_24 ix_24 (Nat.le_of_ble_eq_true rfl) ⟨Nat.le_of_ble_eq_true rfl, Nat.le_of_ble_eq_true rfl⟩ dX1_init_7 (fun q1 => ?_)
  show NN X 1 ((h0, .inr (1, [.int 0, .null, .null])) :: [(q1, .inl (cy.1, 24, .inl (fun _ => 0)))]) 1 24 9 [(0, .ref h0)] [.ref q1, .ref h0]
  refine n_putF (pc := 9) hX hN ff_1_9 (Nat.le_of_ble_eq_true rfl) dX1_init_9 ?_
  show NN X 1 ((h0, .inr (1, [.int 0, .ref q1, .null])) :: [(q1, .inl (cy.1, 24, .inl (fun _ => 0)))]) 1 24 12 [(0, .ref h0)] []
  refine n_aload_n (pc := 12) 0 hX dX1_init_12 rfl ?_
  refine n_bipush (pc := 13) hX dX1_init_13 bp_8 ?_
  refine n_newI (pc := 15) (N := 8) hX ac_int nn_8 ix_8 (Nat.le_of_ble_eq_true rfl) ⟨Nat.le_of_ble_eq_true rfl, Nat.le_of_ble_eq_true rfl⟩ dX1_init_15 (fun q2 => ?_)
  show NN X 1 ((h0, .inr (1, [.int 0, .ref q1, .null])) :: ([(q1, .inl (cy.1, 24, .inl (fun _ => 0)))] ++ [(q2, .inl (cy.1, 8, .inl (fun _ => 0)))])) 2 32 17 [(0, .ref h0)] [.ref q2, .ref h0]
  refine n_putF (pc := 17) hX hN ff_1_15 (Nat.le_of_ble_eq_true rfl) dX1_init_17 ?_
  show NN X 1 ((h0, .inr (1, [.int 0, .ref q1, .ref q2])) :: ([(q1, .inl (cy.1, 24, .inl (fun _ => 0)))] ++ [(q2, .inl (cy.1, 8, .inl (fun _ => 0)))])) 2 32 20 [(0, .ref h0)] []
  exact n_ret (pc := 20) (fun c => if c < 9 then h0 else if c < 10 then q1 else q2) hX hR rfl rfl dX1_init_20
set_option maxRecDepth 100000 in
set_option maxHeartbeats 4000000 in
theorem c_X4_init  : CI 11 [11, 12, 13] yX4_init cX4_init 1 1 12 2 21 4 [.null, .int 0, .int 0, .int 0, .int 0, .int 0, .int 0, .null, .int 0] MM0 := by
  refine CI.of RX4 (by decide +kernel) rfl rfl (Nat.le_of_ble_eq_true rfl) (fun X cy h0 hX hN hR => ?_)
  refine n_aload_n (pc := 0) 0 hX dX4_init_0 rfl ?_
  refine n_obj (pc := 1) hX ⟨(mw 101 (by decide +kernel) (by decide +kernel)), (mw 29 (by decide +kernel) (by decide +kernel)), (mw 30 (by decide +kernel) (by decide +kernel))⟩ (Nat.le_of_ble_eq_true rfl) (Nat.le_of_ble_eq_true rfl) dX4_init_1 ?_
  refine n_aload_n (pc := 4) 0 hX dX4_init_4 rfl ?_
  refine n_iconst (pc := 5) hX dX4_init_5 ic_3 ?_
  refine n_newI (pc := 6) (N := 3) hX ac_int nn_3 ix_3 (Nat.le_of_ble_eq_true rfl) ⟨Nat.le_of_ble_eq_true rfl, Nat.le_of_ble_eq_true rfl⟩ dX4_init_6 (fun q1 => ?_)
  show NN X 1 ((h0, .inr (4, [.null, .int 0, .int 0, .int 0, .int 0, .int 0, .int 0, .null, .int 0])) :: [(q1, .inl (cy.1, 3, .inl (fun _ => 0)))]) 1 3 8 [(0, .ref h0)] [.ref q1, .ref h0]
  refine n_putF (pc := 8) hX hN ff_4_9 (Nat.le_of_ble_eq_true rfl) dX4_init_8 ?_
  show NN X 1 ((h0, .inr (4, [.ref q1, .int 0, .int 0, .int 0, .int 0, .int 0, .int 0, .null, .int 0])) :: [(q1, .inl (cy.1, 3, .inl (fun _ => 0)))]) 1 3 11 [(0, .ref h0)] []
  refine n_aload_n (pc := 11) 0 hX dX4_init_11 rfl ?_
  refine n_bipush (pc := 12) hX dX4_init_12 bp_18 ?_
  refine n_newI (pc := 14) (N := 18) hX ac_int nn_18 ix_18 (Nat.le_of_ble_eq_true rfl) ⟨Nat.le_of_ble_eq_true rfl, Nat.le_of_ble_eq_true rfl⟩ dX4_init_14 (fun q2 => ?_)
  show NN X 1 ((h0, .inr (4, [.ref q1, .int 0, .int 0, .int 0, .int 0, .int 0, .int 0, .null, .int 0])) :: ([(q1, .inl (cy.1, 3, .inl (fun _ => 0)))] ++ [(q2, .inl (cy.1, 18, .inl (fun _ => 0)))])) 2 21 16 [(0, .ref h0)] [.ref q2, .ref h0]
  refine n_putF (pc := 16) hX hN ff_4_15 (Nat.le_of_ble_eq_true rfl) dX4_init_16 ?_
  show NN X 1 ((h0, .inr (4, [.ref q1, .int 0, .int 0, .int 0, .int 0, .int 0, .int 0, .ref q2, .int 0])) :: ([(q1, .inl (cy.1, 3, .inl (fun _ => 0)))] ++ [(q2, .inl (cy.1, 18, .inl (fun _ => 0)))])) 2 21 19 [(0, .ref h0)] []
  exact n_ret (pc := 19) (fun c => if c < 12 then h0 else if c < 13 then q1 else q2) hX hR rfl rfl dX4_init_19
set_option maxRecDepth 100000 in
set_option maxHeartbeats 4000000 in
theorem c_X6_init  : CI 1 [1, 2, 3, 4, 5, 6, 7, 8, 9, 10, 11, 12, 13] yX6_init cX6_init 1 2 32 12 116 6 [.int 0, .int 0, .int 0, .null, .null, .null, .null] MM0 := by
  refine CI.of RX6 (by decide +kernel) rfl rfl (Nat.le_of_ble_eq_true rfl) (fun X cy h0 hX hN hR => ?_)
  refine n_aload_n (pc := 0) 0 hX dX6_init_0 rfl ?_
  refine n_obj (pc := 1) hX ⟨(mw 36 (by decide +kernel) (by decide +kernel)), (mw 29 (by decide +kernel) (by decide +kernel)), (mw 30 (by decide +kernel) (by decide +kernel))⟩ (Nat.le_of_ble_eq_true rfl) (Nat.le_of_ble_eq_true rfl) dX6_init_1 ?_
  refine n_aload_n (pc := 4) 0 hX dX6_init_4 rfl ?_
  refine n_new (pc := 5) hX cw_6_9 ⟨Nat.le_of_ble_eq_true rfl, Nat.le_of_ble_eq_true rfl⟩ dX6_init_5 (fun q1 => ?_)
  refine n_dup (pc := 8) hX dX6_init_8 rfl ?_
  refine n_initN (pc := 9) (kc := 1) (ks := 3) hX ci_6_11 c_X7_init ⟨Nat.le_of_ble_eq_true rfl, Nat.le_of_ble_eq_true rfl⟩ ⟨Nat.le_of_ble_eq_true rfl, Nat.le_of_ble_eq_true rfl⟩ (Nat.le_of_ble_eq_true rfl) dX6_init_9 (fun a1 ea1 => ?_)
  subst ea1
  show NN X 1 ((h0, .inr (6, [.int 0, .int 0, .int 0, .null, .null, .null, .null])) :: wl cy a1 [2, 3, 4] MM0) 3 43 12 [(0, .ref h0)] [.ref (a1 2), .ref h0]
  refine n_putF (pc := 12) hX hN ff_6_12 (Nat.le_of_ble_eq_true rfl) dX6_init_12 ?_
  show NN X 1 ((h0, .inr (6, [.int 0, .int 0, .int 0, .ref (a1 2), .null, .null, .null])) :: wl cy a1 [2, 3, 4] MM0) 3 43 15 [(0, .ref h0)] []
  refine n_aload_n (pc := 15) 0 hX dX6_init_15 rfl ?_
  refine n_new (pc := 16) hX cw_6_18 ⟨Nat.le_of_ble_eq_true rfl, Nat.le_of_ble_eq_true rfl⟩ dX6_init_16 (fun q2 => ?_)
  refine n_dup (pc := 19) hX dX6_init_19 rfl ?_
  refine n_initN (pc := 20) (kc := 4) (ks := 45) hX ci_6_20 c_X0_init ⟨Nat.le_of_ble_eq_true rfl, Nat.le_of_ble_eq_true rfl⟩ ⟨Nat.le_of_ble_eq_true rfl, Nat.le_of_ble_eq_true rfl⟩ (Nat.le_of_ble_eq_true rfl) dX6_init_20 (fun a2 ea2 => ?_)
  subst ea2
  show NN X 1 ((h0, .inr (6, [.int 0, .int 0, .int 0, .ref (a1 2), .null, .null, .null])) :: (wl cy a1 [2, 3, 4] MM0 ++ wl cy a2 [5, 6, 7] MM0)) 6 51 23 [(0, .ref h0)] [.ref (a2 5), .ref h0]
  refine n_putF (pc := 23) hX hN ff_6_21 (Nat.le_of_ble_eq_true rfl) dX6_init_23 ?_
  show NN X 1 ((h0, .inr (6, [.int 0, .int 0, .int 0, .ref (a1 2), .ref (a2 5), .null, .null])) :: (wl cy a1 [2, 3, 4] MM0 ++ wl cy a2 [5, 6, 7] MM0)) 6 51 26 [(0, .ref h0)] []
  refine n_aload_n (pc := 26) 0 hX dX6_init_26 rfl ?_
  refine n_new (pc := 27) hX cw_6_25 ⟨Nat.le_of_ble_eq_true rfl, Nat.le_of_ble_eq_true rfl⟩ dX6_init_27 (fun q3 => ?_)
  refine n_dup (pc := 30) hX dX6_init_30 rfl ?_
  refine n_initN (pc := 31) (kc := 7) (ks := 54) hX ci_6_27 c_X1_init ⟨Nat.le_of_ble_eq_true rfl, Nat.le_of_ble_eq_true rfl⟩ ⟨Nat.le_of_ble_eq_true rfl, Nat.le_of_ble_eq_true rfl⟩ (Nat.le_of_ble_eq_true rfl) dX6_init_31 (fun a3 ea3 => ?_)
  subst ea3
  show NN X 1 ((h0, .inr (6, [.int 0, .int 0, .int 0, .ref (a1 2), .ref (a2 5), .null, .null])) :: ((wl cy a1 [2, 3, 4] MM0 ++ wl cy a2 [5, 6, 7] MM0) ++ wl cy a3 [8, 9, 10] MM0)) 9 86 34 [(0, .ref h0)] [.ref (a3 8), .ref h0]
  refine n_putF (pc := 34) hX hN ff_6_28 (Nat.le_of_ble_eq_true rfl) dX6_init_34 ?_
  show NN X 1 ((h0, .inr (6, [.int 0, .int 0, .int 0, .ref (a1 2), .ref (a2 5), .ref (a3 8), .null])) :: ((wl cy a1 [2, 3, 4] MM0 ++ wl cy a2 [5, 6, 7] MM0) ++ wl cy a3 [8, 9, 10] MM0)) 9 86 37 [(0, .ref h0)] []
  refine n_aload_n (pc := 37) 0 hX dX6_init_37 rfl ?_
  refine n_new (pc := 38) hX cw_6_32 ⟨Nat.le_of_ble_eq_true rfl, Nat.le_of_ble_eq_true rfl⟩ dX6_init_38 (fun q4 => ?_)
  refine n_dup (pc := 41) hX dX6_init_41 rfl ?_
  refine n_initN (pc := 42) (kc := 10) (ks := 95) hX ci_6_34 c_X4_init ⟨Nat.le_of_ble_eq_true rfl, Nat.le_of_ble_eq_true rfl⟩ ⟨Nat.le_of_ble_eq_true rfl, Nat.le_of_ble_eq_true rfl⟩ (Nat.le_of_ble_eq_true rfl) dX6_init_42 (fun a4 ea4 => ?_)
  subst ea4
  show NN X 1 ((h0, .inr (6, [.int 0, .int 0, .int 0, .ref (a1 2), .ref (a2 5), .ref (a3 8), .null])) :: (((wl cy a1 [2, 3, 4] MM0 ++ wl cy a2 [5, 6, 7] MM0) ++ wl cy a3 [8, 9, 10] MM0) ++ wl cy a4 [11, 12, 13] MM0)) 12 116 45 [(0, .ref h0)] [.ref (a4 11), .ref h0]
  refine n_putF (pc := 45) hX hN ff_6_35 (Nat.le_of_ble_eq_true rfl) dX6_init_45 ?_
  show NN X 1 ((h0, .inr (6, [.int 0, .int 0, .int 0, .ref (a1 2), .ref (a2 5), .ref (a3 8), .ref (a4 11)])) :: (((wl cy a1 [2, 3, 4] MM0 ++ wl cy a2 [5, 6, 7] MM0) ++ wl cy a3 [8, 9, 10] MM0) ++ wl cy a4 [11, 12, 13] MM0)) 12 116 48 [(0, .ref h0)] []
  exact n_ret (pc := 48) (fun c => if c < 2 then h0 else if c < 5 then a1 c else if c < 8 then a2 c else if c < 11 then a3 c else a4 c) hX hR rfl rfl dX6_init_48
set_option maxRecDepth 100000 in
set_option maxHeartbeats 4000000 in
theorem c_X2_init  : CI 14 [14, 15, 16, 17, 18, 19, 20, 21, 22, 23, 24, 25, 26, 27, 28, 29, 30, 31, 32, 33, 34, 35, 36, 37, 38, 39, 40, 41, 42, 43, 44, 45, 46, 47, 48, 49, 50, 51, 52, 53, 54, 55, 56, 57, 58, 59, 60, 61, 62, 63, 64, 65, 66] yX2_init cX2_init 1 3 52 52 492 2 [.int 0, .null, .null, .null, .null] MM0 := by
  refine CI.of RX2 (by decide +kernel) rfl rfl (Nat.le_of_ble_eq_true rfl) (fun X cy h0 hX hN hR => ?_)
  refine n_aload_n (pc := 0) 0 hX dX2_init_0 rfl ?_
  refine n_obj (pc := 1) hX ⟨(mw 215 (by decide +kernel) (by decide +kernel)), (mw 29 (by decide +kernel) (by decide +kernel)), (mw 30 (by decide +kernel) (by decide +kernel))⟩ (Nat.le_of_ble_eq_true rfl) (Nat.le_of_ble_eq_true rfl) dX2_init_1 ?_
  refine n_aload_n (pc := 4) 0 hX dX2_init_4 rfl ?_
  refine n_new (pc := 5) hX cw_2_9 ⟨Nat.le_of_ble_eq_true rfl, Nat.le_of_ble_eq_true rfl⟩ dX2_init_5 (fun q1 => ?_)
  refine n_dup (pc := 8) hX dX2_init_8 rfl ?_
  refine n_initN (pc := 9) (kc := 1) (ks := 7) hX ci_2_11 c_X6_init ⟨Nat.le_of_ble_eq_true rfl, Nat.le_of_ble_eq_true rfl⟩ ⟨Nat.le_of_ble_eq_true rfl, Nat.le_of_ble_eq_true rfl⟩ (Nat.le_of_ble_eq_true rfl) dX2_init_9 (fun a1 ea1 => ?_)
  subst ea1
  show NN X 1 ((h0, .inr (2, [.int 0, .null, .null, .null, .null])) :: wl cy a1 [1, 2, 3, 4, 5, 6, 7, 8, 9, 10, 11, 12, 13] MM0) 13 123 12 [(0, .ref h0)] [.ref (a1 1), .ref h0]
  refine n_putF (pc := 12) hX hN ff_2_12 (Nat.le_of_ble_eq_true rfl) dX2_init_12 ?_
  show NN X 1 ((h0, .inr (2, [.int 0, .ref (a1 1), .null, .null, .null])) :: wl cy a1 [1, 2, 3, 4, 5, 6, 7, 8, 9, 10, 11, 12, 13] MM0) 13 123 15 [(0, .ref h0)] []
  refine n_aload_n (pc := 15) 0 hX dX2_init_15 rfl ?_
  refine n_new (pc := 16) hX cw_2_9 ⟨Nat.le_of_ble_eq_true rfl, Nat.le_of_ble_eq_true rfl⟩ dX2_init_16 (fun q2 => ?_)
  refine n_dup (pc := 19) hX dX2_init_19 rfl ?_
  refine n_initN (pc := 20) (kc := 14) (ks := 130) hX ci_2_11 c_X6_init ⟨Nat.le_of_ble_eq_true rfl, Nat.le_of_ble_eq_true rfl⟩ ⟨Nat.le_of_ble_eq_true rfl, Nat.le_of_ble_eq_true rfl⟩ (Nat.le_of_ble_eq_true rfl) dX2_init_20 (fun a2 ea2 => ?_)
  subst ea2
  show NN X 1 ((h0, .inr (2, [.int 0, .ref (a1 1), .null, .null, .null])) :: (wl cy a1 [1, 2, 3, 4, 5, 6, 7, 8, 9, 10, 11, 12, 13] MM0 ++ wl cy a2 [1, 2, 3, 4, 5, 6, 7, 8, 9, 10, 11, 12, 13] MM0)) 26 246 23 [(0, .ref h0)] [.ref (a2 1), .ref h0]
  refine n_putF (pc := 23) hX hN ff_2_18 (Nat.le_of_ble_eq_true rfl) dX2_init_23 ?_
  show NN X 1 ((h0, .inr (2, [.int 0, .ref (a1 1), .ref (a2 1), .null, .null])) :: (wl cy a1 [1, 2, 3, 4, 5, 6, 7, 8, 9, 10, 11, 12, 13] MM0 ++ wl cy a2 [1, 2, 3, 4, 5, 6, 7, 8, 9, 10, 11, 12, 13] MM0)) 26 246 26 [(0, .ref h0)] []
  refine n_aload_n (pc := 26) 0 hX dX2_init_26 rfl ?_
  refine n_new (pc := 27) hX cw_2_9 ⟨Nat.le_of_ble_eq_true rfl, Nat.le_of_ble_eq_true rfl⟩ dX2_init_27 (fun q3 => ?_)
  refine n_dup (pc := 30) hX dX2_init_30 rfl ?_
  refine n_initN (pc := 31) (kc := 27) (ks := 253) hX ci_2_11 c_X6_init ⟨Nat.le_of_ble_eq_true rfl, Nat.le_of_ble_eq_true rfl⟩ ⟨Nat.le_of_ble_eq_true rfl, Nat.le_of_ble_eq_true rfl⟩ (Nat.le_of_ble_eq_true rfl) dX2_init_31 (fun a3 ea3 => ?_)
  subst ea3
  show NN X 1 ((h0, .inr (2, [.int 0, .ref (a1 1), .ref (a2 1), .null, .null])) :: ((wl cy a1 [1, 2, 3, 4, 5, 6, 7, 8, 9, 10, 11, 12, 13] MM0 ++ wl cy a2 [1, 2, 3, 4, 5, 6, 7, 8, 9, 10, 11, 12, 13] MM0) ++ wl cy a3 [1, 2, 3, 4, 5, 6, 7, 8, 9, 10, 11, 12, 13] MM0)) 39 369 34 [(0, .ref h0)] [.ref (a3 1), .ref h0]
  refine n_putF (pc := 34) hX hN ff_2_21 (Nat.le_of_ble_eq_true rfl) dX2_init_34 ?_
  show NN X 1 ((h0, .inr (2, [.int 0, .ref (a1 1), .ref (a2 1), .ref (a3 1), .null])) :: ((wl cy a1 [1, 2, 3, 4, 5, 6, 7, 8, 9, 10, 11, 12, 13] MM0 ++ wl cy a2 [1, 2, 3, 4, 5, 6, 7, 8, 9, 10, 11, 12, 13] MM0) ++ wl cy a3 [1, 2, 3, 4, 5, 6, 7, 8, 9, 10, 11, 12, 13] MM0)) 39 369 37 [(0, .ref h0)] []
  refine n_aload_n (pc := 37) 0 hX dX2_init_37 rfl ?_
  refine n_new (pc := 38) hX cw_2_9 ⟨Nat.le_of_ble_eq_true rfl, Nat.le_of_ble_eq_true rfl⟩ dX2_init_38 (fun q4 => ?_)
  refine n_dup (pc := 41) hX dX2_init_41 rfl ?_
  refine n_initN (pc := 42) (kc := 40) (ks := 376) hX ci_2_11 c_X6_init ⟨Nat.le_of_ble_eq_true rfl, Nat.le_of_ble_eq_true rfl⟩ ⟨Nat.le_of_ble_eq_true rfl, Nat.le_of_ble_eq_true rfl⟩ (Nat.le_of_ble_eq_true rfl) dX2_init_42 (fun a4 ea4 => ?_)
  subst ea4
  show NN X 1 ((h0, .inr (2, [.int 0, .ref (a1 1), .ref (a2 1), .ref (a3 1), .null])) :: (((wl cy a1 [1, 2, 3, 4, 5, 6, 7, 8, 9, 10, 11, 12, 13] MM0 ++ wl cy a2 [1, 2, 3, 4, 5, 6, 7, 8, 9, 10, 11, 12, 13] MM0) ++ wl cy a3 [1, 2, 3, 4, 5, 6, 7, 8, 9, 10, 11, 12, 13] MM0) ++ wl cy a4 [1, 2, 3, 4, 5, 6, 7, 8, 9, 10, 11, 12, 13] MM0)) 52 492 45 [(0, .ref h0)] [.ref (a4 1), .ref h0]
  refine n_putF (pc := 45) hX hN ff_2_24 (Nat.le_of_ble_eq_true rfl) dX2_init_45 ?_
  show NN X 1 ((h0, .inr (2, [.int 0, .ref (a1 1), .ref (a2 1), .ref (a3 1), .ref (a4 1)])) :: (((wl cy a1 [1, 2, 3, 4, 5, 6, 7, 8, 9, 10, 11, 12, 13] MM0 ++ wl cy a2 [1, 2, 3, 4, 5, 6, 7, 8, 9, 10, 11, 12, 13] MM0) ++ wl cy a3 [1, 2, 3, 4, 5, 6, 7, 8, 9, 10, 11, 12, 13] MM0) ++ wl cy a4 [1, 2, 3, 4, 5, 6, 7, 8, 9, 10, 11, 12, 13] MM0)) 52 492 48 [(0, .ref h0)] []
  exact n_ret (pc := 48) (fun c => if c < 15 then h0 else if c < 28 then a1 (c - 14) else if c < 41 then a2 (c - 27) else if c < 54 then a3 (c - 40) else a4 (c - 53)) hX hR rfl rfl dX2_init_48
set_option maxRecDepth 100000 in
set_option maxHeartbeats 4000000 in
theorem c_X8_init  : CI 80 [80, 81, 82, 83, 84, 85] yX8_init cX8_init 1 2 32 5 106 8 [.int 0, .null, .null, .int 0, .int 0, .int 0, .int 0, .int 0, .int 0, .null] MM0 := by
  refine CI.of RX8 (by decide +kernel) rfl rfl (Nat.le_of_ble_eq_true rfl) (fun X cy h0 hX hN hR => ?_)
  refine n_aload_n (pc := 0) 0 hX dX8_init_0 rfl ?_
  refine n_obj (pc := 1) hX ⟨(mw 240 (by decide +kernel) (by decide +kernel)), (mw 29 (by decide +kernel) (by decide +kernel)), (mw 30 (by decide +kernel) (by decide +kernel))⟩ (Nat.le_of_ble_eq_true rfl) (Nat.le_of_ble_eq_true rfl) dX8_init_1 ?_
  refine n_aload_n (pc := 4) 0 hX dX8_init_4 rfl ?_
  refine n_bipush (pc := 5) hX dX8_init_5 bp_60 ?_
  refine n_newI (pc := 7) (N := 60) hX ac_int nn_60 ix_60 (Nat.le_of_ble_eq_true rfl) ⟨Nat.le_of_ble_eq_true rfl, Nat.le_of_ble_eq_true rfl⟩ dX8_init_7 (fun q1 => ?_)
  show NN X 1 ((h0, .inr (8, [.int 0, .null, .null, .int 0, .int 0, .int 0, .int 0, .int 0, .int 0, .null])) :: [(q1, .inl (cy.1, 60, .inl (fun _ => 0)))]) 1 60 9 [(0, .ref h0)] [.ref q1, .ref h0]
  refine n_putF (pc := 9) hX hN ff_8_9 (Nat.le_of_ble_eq_true rfl) dX8_init_9 ?_
  show NN X 1 ((h0, .inr (8, [.int 0, .ref q1, .null, .int 0, .int 0, .int 0, .int 0, .int 0, .int 0, .null])) :: [(q1, .inl (cy.1, 60, .inl (fun _ => 0)))]) 1 60 12 [(0, .ref h0)] []
  refine n_aload_n (pc := 12) 0 hX dX8_init_12 rfl ?_
  refine n_new (pc := 13) hX cw_8_15 ⟨Nat.le_of_ble_eq_true rfl, Nat.le_of_ble_eq_true rfl⟩ dX8_init_13 (fun q2 => ?_)
  refine n_dup (pc := 16) hX dX8_init_16 rfl ?_
  refine n_initN (pc := 17) (kc := 2) (ks := 63) hX ci_8_17 c_X7_init ⟨Nat.le_of_ble_eq_true rfl, Nat.le_of_ble_eq_true rfl⟩ ⟨Nat.le_of_ble_eq_true rfl, Nat.le_of_ble_eq_true rfl⟩ (Nat.le_of_ble_eq_true rfl) dX8_init_17 (fun a2 ea2 => ?_)
  subst ea2
  show NN X 1 ((h0, .inr (8, [.int 0, .ref q1, .null, .int 0, .int 0, .int 0, .int 0, .int 0, .int 0, .null])) :: ([(q1, .inl (cy.1, 60, .inl (fun _ => 0)))] ++ wl cy a2 [2, 3, 4] MM0)) 4 103 20 [(0, .ref h0)] [.ref (a2 2), .ref h0]
  refine n_putF (pc := 20) hX hN ff_8_18 (Nat.le_of_ble_eq_true rfl) dX8_init_20 ?_
  show NN X 1 ((h0, .inr (8, [.int 0, .ref q1, .ref (a2 2), .int 0, .int 0, .int 0, .int 0, .int 0, .int 0, .null])) :: ([(q1, .inl (cy.1, 60, .inl (fun _ => 0)))] ++ wl cy a2 [2, 3, 4] MM0)) 4 103 23 [(0, .ref h0)] []
  refine n_aload_n (pc := 23) 0 hX dX8_init_23 rfl ?_
  refine n_iconst (pc := 24) hX dX8_init_24 ic_3 ?_
  refine n_newI (pc := 25) (N := 3) hX ac_int nn_3 ix_3 (Nat.le_of_ble_eq_true rfl) ⟨Nat.le_of_ble_eq_true rfl, Nat.le_of_ble_eq_true rfl⟩ dX8_init_25 (fun q3 => ?_)
  show NN X 1 ((h0, .inr (8, [.int 0, .ref q1, .ref (a2 2), .int 0, .int 0, .int 0, .int 0, .int 0, .int 0, .null])) :: (([(q1, .inl (cy.1, 60, .inl (fun _ => 0)))] ++ wl cy a2 [2, 3, 4] MM0) ++ [(q3, .inl (cy.1, 3, .inl (fun _ => 0)))])) 5 106 27 [(0, .ref h0)] [.ref q3, .ref h0]
  refine n_putF (pc := 27) hX hN ff_8_22 (Nat.le_of_ble_eq_true rfl) dX8_init_27 ?_
  show NN X 1 ((h0, .inr (8, [.int 0, .ref q1, .ref (a2 2), .int 0, .int 0, .int 0, .int 0, .int 0, .int 0, .ref q3])) :: (([(q1, .inl (cy.1, 60, .inl (fun _ => 0)))] ++ wl cy a2 [2, 3, 4] MM0) ++ [(q3, .inl (cy.1, 3, .inl (fun _ => 0)))])) 5 106 30 [(0, .ref h0)] []
  exact n_ret (pc := 30) (fun c => if c < 81 then h0 else if c < 82 then q1 else if c < 85 then a2 (c - 80) else q3) hX hR rfl rfl dX8_init_30
set_option maxRecDepth 100000 in
set_option maxHeartbeats 4000000 in
theorem c_X9_init  : CI 86 [86, 87, 88, 89] yX9_init cX9_init 1 1 12 3 24 9 [.int 0, .null, .null, .null, .long 0, .int 0] MM0 := by
  refine CI.of RX9 (by decide +kernel) rfl rfl (Nat.le_of_ble_eq_true rfl) (fun X cy h0 hX hN hR => ?_)
  refine n_aload_n (pc := 0) 0 hX dX9_init_0 rfl ?_
  refine n_obj (pc := 1) hX ⟨(mw 273 (by decide +kernel) (by decide +kernel)), (mw 29 (by decide +kernel) (by decide +kernel)), (mw 30 (by decide +kernel) (by decide +kernel))⟩ (Nat.le_of_ble_eq_true rfl) (Nat.le_of_ble_eq_true rfl) dX9_init_1 ?_
  refine n_aload_n (pc := 4) 0 hX dX9_init_4 rfl ?_
  refine n_bipush (pc := 5) hX dX9_init_5 bp_8 ?_
  refine n_newI (pc := 7) (N := 8) hX ac_int nn_8 ix_8 (Nat.le_of_ble_eq_true rfl) ⟨Nat.le_of_ble_eq_true rfl, Nat.le_of_ble_eq_true rfl⟩ dX9_init_7 (fun q1 => ?_)
  show NN X 1 ((h0, .inr (9, [.int 0, .null, .null, .null, .long 0, .int 0])) :: [(q1, .inl (cy.1, 8, .inl (fun _ => 0)))]) 1 8 9 [(0, .ref h0)] [.ref q1, .ref h0]
  refine n_putF (pc := 9) hX hN ff_9_9 (Nat.le_of_ble_eq_true rfl) dX9_init_9 ?_
  show NN X 1 ((h0, .inr (9, [.int 0, .ref q1, .null, .null, .long 0, .int 0])) :: [(q1, .inl (cy.1, 8, .inl (fun _ => 0)))]) 1 8 12 [(0, .ref h0)] []
  refine n_aload_n (pc := 12) 0 hX dX9_init_12 rfl ?_
  refine n_bipush (pc := 13) hX dX9_init_13 bp_8 ?_
  refine n_newL (pc := 15) (N := 8) hX ac_long nn_8 ix_8 (Nat.le_of_ble_eq_true rfl) ⟨Nat.le_of_ble_eq_true rfl, Nat.le_of_ble_eq_true rfl⟩ dX9_init_15 (fun q2 => ?_)
  show NN X 1 ((h0, .inr (9, [.int 0, .ref q1, .null, .null, .long 0, .int 0])) :: ([(q1, .inl (cy.1, 8, .inl (fun _ => 0)))] ++ [(q2, .inl (cy.2.1, 8, .inr (.inl (fun _ => 0))))])) 2 16 17 [(0, .ref h0)] [.ref q2, .ref h0]
  refine n_putF (pc := 17) hX hN ff_9_15 (Nat.le_of_ble_eq_true rfl) dX9_init_17 ?_
  show NN X 1 ((h0, .inr (9, [.int 0, .ref q1, .ref q2, .null, .long 0, .int 0])) :: ([(q1, .inl (cy.1, 8, .inl (fun _ => 0)))] ++ [(q2, .inl (cy.2.1, 8, .inr (.inl (fun _ => 0))))])) 2 16 20 [(0, .ref h0)] []
  refine n_aload_n (pc := 20) 0 hX dX9_init_20 rfl ?_
  refine n_bipush (pc := 21) hX dX9_init_21 bp_8 ?_
  refine n_newL (pc := 23) (N := 8) hX ac_long nn_8 ix_8 (Nat.le_of_ble_eq_true rfl) ⟨Nat.le_of_ble_eq_true rfl, Nat.le_of_ble_eq_true rfl⟩ dX9_init_23 (fun q3 => ?_)
  show NN X 1 ((h0, .inr (9, [.int 0, .ref q1, .ref q2, .null, .long 0, .int 0])) :: (([(q1, .inl (cy.1, 8, .inl (fun _ => 0)))] ++ [(q2, .inl (cy.2.1, 8, .inr (.inl (fun _ => 0))))]) ++ [(q3, .inl (cy.2.1, 8, .inr (.inl (fun _ => 0))))])) 3 24 25 [(0, .ref h0)] [.ref q3, .ref h0]
  refine n_putF (pc := 25) hX hN ff_9_19 (Nat.le_of_ble_eq_true rfl) dX9_init_25 ?_
  show NN X 1 ((h0, .inr (9, [.int 0, .ref q1, .ref q2, .ref q3, .long 0, .int 0])) :: (([(q1, .inl (cy.1, 8, .inl (fun _ => 0)))] ++ [(q2, .inl (cy.2.1, 8, .inr (.inl (fun _ => 0))))]) ++ [(q3, .inl (cy.2.1, 8, .inr (.inl (fun _ => 0))))])) 3 24 28 [(0, .ref h0)] []
  exact n_ret (pc := 28) (fun c => if c < 87 then h0 else if c < 88 then q1 else if c < 89 then q2 else q3) hX hR rfl rfl dX9_init_28
set_option maxRecDepth 100000 in
set_option maxHeartbeats 4000000 in
theorem c_X3_init  : CI 90 [90, 91] yX3_init cX3_init 1 1 12 1 3 3 [.null, .long 0] MM0 := by
  refine CI.of RX3 (by decide +kernel) rfl rfl (Nat.le_of_ble_eq_true rfl) (fun X cy h0 hX hN hR => ?_)
  refine n_aload_n (pc := 0) 0 hX dX3_init_0 rfl ?_
  refine n_obj (pc := 1) hX ⟨(mw 302 (by decide +kernel) (by decide +kernel)), (mw 29 (by decide +kernel) (by decide +kernel)), (mw 30 (by decide +kernel) (by decide +kernel))⟩ (Nat.le_of_ble_eq_true rfl) (Nat.le_of_ble_eq_true rfl) dX3_init_1 ?_
  refine n_aload_n (pc := 4) 0 hX dX3_init_4 rfl ?_
  refine n_iconst (pc := 5) hX dX3_init_5 ic_3 ?_
  refine n_newI (pc := 6) (N := 3) hX ac_int nn_3 ix_3 (Nat.le_of_ble_eq_true rfl) ⟨Nat.le_of_ble_eq_true rfl, Nat.le_of_ble_eq_true rfl⟩ dX3_init_6 (fun q1 => ?_)
  show NN X 1 ((h0, .inr (3, [.null, .long 0])) :: [(q1, .inl (cy.1, 3, .inl (fun _ => 0)))]) 1 3 8 [(0, .ref h0)] [.ref q1, .ref h0]
  refine n_putF (pc := 8) hX hN ff_3_9 (Nat.le_of_ble_eq_true rfl) dX3_init_8 ?_
  show NN X 1 ((h0, .inr (3, [.ref q1, .long 0])) :: [(q1, .inl (cy.1, 3, .inl (fun _ => 0)))]) 1 3 11 [(0, .ref h0)] []
  exact n_ret (pc := 11) (fun c => if c < 91 then h0 else q1) hX hR rfl rfl dX3_init_11
set_option maxRecDepth 100000 in
set_option maxHeartbeats 4000000 in
theorem c_X5_init  : CI 92 [92, 93, 94] yX5_init cX5_init 1 1 12 2 45 5 [.int 0, .null, .null] MM0 := by
  refine CI.of RX5 (by decide +kernel) rfl rfl (Nat.le_of_ble_eq_true rfl) (fun X cy h0 hX hN hR => ?_)
  refine n_aload_n (pc := 0) 0 hX dX5_init_0 rfl ?_
  refine n_obj (pc := 1) hX ⟨(mw 316 (by decide +kernel) (by decide +kernel)), (mw 29 (by decide +kernel) (by decide +kernel)), (mw 30 (by decide +kernel) (by decide +kernel))⟩ (Nat.le_of_ble_eq_true rfl) (Nat.le_of_ble_eq_true rfl) dX5_init_1 ?_
  refine n_aload_n (pc := 4) 0 hX dX5_init_4 rfl ?_
  refine n_bipush (pc := 5) hX dX5_init_5 bp_42 ?_
  refine n_newI (pc := 7) (N := 42) hX ac_int nn_42 ix_42 (Nat.le_of_ble_eq_true rfl) ⟨Nat.le_of_ble_eq_true rfl, Nat.le_of_ble_eq_true rfl⟩ dX5_init_7 (fun q1 => ?_)
  show NN X 1 ((h0, .inr (5, [.int 0, .null, .null])) :: [(q1, .inl (cy.1, 42, .inl (fun _ => 0)))]) 1 42 9 [(0, .ref h0)] [.ref q1, .ref h0]
  refine n_putF (pc := 9) hX hN ff_5_9 (Nat.le_of_ble_eq_true rfl) dX5_init_9 ?_
  show NN X 1 ((h0, .inr (5, [.int 0, .ref q1, .null])) :: [(q1, .inl (cy.1, 42, .inl (fun _ => 0)))]) 1 42 12 [(0, .ref h0)] []
  refine n_aload_n (pc := 12) 0 hX dX5_init_12 rfl ?_
  refine n_iconst (pc := 13) hX dX5_init_13 ic_3 ?_
  refine n_newI (pc := 14) (N := 3) hX ac_int nn_3 ix_3 (Nat.le_of_ble_eq_true rfl) ⟨Nat.le_of_ble_eq_true rfl, Nat.le_of_ble_eq_true rfl⟩ dX5_init_14 (fun q2 => ?_)
  show NN X 1 ((h0, .inr (5, [.int 0, .ref q1, .null])) :: ([(q1, .inl (cy.1, 42, .inl (fun _ => 0)))] ++ [(q2, .inl (cy.1, 3, .inl (fun _ => 0)))])) 2 45 16 [(0, .ref h0)] [.ref q2, .ref h0]
  refine n_putF (pc := 16) hX hN ff_5_15 (Nat.le_of_ble_eq_true rfl) dX5_init_16 ?_
  show NN X 1 ((h0, .inr (5, [.int 0, .ref q1, .ref q2])) :: ([(q1, .inl (cy.1, 42, .inl (fun _ => 0)))] ++ [(q2, .inl (cy.1, 3, .inl (fun _ => 0)))])) 2 45 19 [(0, .ref h0)] []
  exact n_ret (pc := 19) (fun c => if c < 93 then h0 else if c < 94 then q1 else q2) hX hR rfl rfl dX5_init_19
def Mz (M : Mm) : Mm := (fun c j => if c = 0 then 0 else if c < 14 then M.1 c j else 0, fun _ _ => 0)
theorem in_1 (k : Nat) (h1 : 1 ≤ k) (h2 : k < 14) : k ∈ [1, 2, 3, 4, 5, 6, 7, 8, 9, 10, 11, 12, 13] := by simp; omega
set_option maxRecDepth 100000 in
set_option maxHeartbeats 4000000 in
theorem c_X10_init (M1 : Mm) (hM1 : fX6_reset MM0 2 = some M1) : CI 0 [0, 1, 2, 3, 4, 5, 6, 7, 8, 9, 10, 11, 12, 13, 14, 15, 16, 17, 18, 19, 20, 21, 22, 23, 24, 25, 26, 27, 28, 29, 30, 31, 32, 33, 34, 35, 36, 37, 38, 39, 40, 41, 42, 43, 44, 45, 46, 47, 48, 49, 50, 51, 52, 53, 54, 55, 56, 57, 58, 59, 60, 61, 62, 63, 64, 65, 66, 67, 68, 69, 70, 71, 72, 73, 74, 75, 76, 77, 78, 79, 80, 81, 82, 83, 84, 85, 86, 87, 88, 89, 90, 91, 92, 93, 94] yX10_init cX10_init 1 4 88 94 942 10 [.null, .null, .null, .int 0, .null, .null, .null, .null] (Mz M1) := by
  refine CI.of RX10 (by decide +kernel) rfl rfl (Nat.le_of_ble_eq_true rfl) (fun X cy h0 hX hN hR => ?_)
  refine n_aload_n (pc := 0) 0 hX dX10_init_0 rfl ?_
  refine n_obj (pc := 1) hX ⟨(mw 28 (by decide +kernel) (by decide +kernel)), (mw 29 (by decide +kernel) (by decide +kernel)), (mw 30 (by decide +kernel) (by decide +kernel))⟩ (Nat.le_of_ble_eq_true rfl) (Nat.le_of_ble_eq_true rfl) dX10_init_1 ?_
  refine n_aload_n (pc := 4) 0 hX dX10_init_4 rfl ?_
  refine n_new (pc := 5) hX cw_10_7 ⟨Nat.le_of_ble_eq_true rfl, Nat.le_of_ble_eq_true rfl⟩ dX10_init_5 (fun q1 => ?_)
  refine n_dup (pc := 8) hX dX10_init_8 rfl ?_
  refine n_initN (pc := 9) (kc := 1) (ks := 7) hX ci_10_9 c_X6_init ⟨Nat.le_of_ble_eq_true rfl, Nat.le_of_ble_eq_true rfl⟩ ⟨Nat.le_of_ble_eq_true rfl, Nat.le_of_ble_eq_true rfl⟩ (Nat.le_of_ble_eq_true rfl) dX10_init_9 (fun a1 ea1 => ?_)
  subst ea1
  show NN X 1 ((h0, .inr (10, [.null, .null, .null, .int 0, .null, .null, .null, .null])) :: wl cy a1 [1, 2, 3, 4, 5, 6, 7, 8, 9, 10, 11, 12, 13] MM0) 13 123 12 [(0, .ref h0)] [.ref (a1 1), .ref h0]
  refine n_putF (pc := 12) hX hN ff_10_10 (Nat.le_of_ble_eq_true rfl) dX10_init_12 ?_
  show NN X 1 ((h0, .inr (10, [.ref (a1 1), .null, .null, .int 0, .null, .null, .null, .null])) :: wl cy a1 [1, 2, 3, 4, 5, 6, 7, 8, 9, 10, 11, 12, 13] MM0) 13 123 15 [(0, .ref h0)] []
  refine n_aload_n (pc := 15) 0 hX dX10_init_15 rfl ?_
  refine n_get (pc := 16) hX fl_10_10 rfl dX10_init_16 ?_
  refine n_iconst (pc := 19) hX dX10_init_19 ic_2 ?_
  show NN X 1 ([(h0, .inr (10, [.ref (a1 1), .null, .null, .int 0, .null, .null, .null, .null]))] ++ wl cy a1 [1, 2, 3, 4, 5, 6, 7, 8, 9, 10, 11, 12, 13] MM0) 13 123 20 [(0, .ref h0)] [.int 2, .ref (a1 1)]
  refine n_callM (pc := 20) [.int 2] none M1 hX cv_10_16 (c_X6_reset (fun k h1 h2 => in_1 k h1 (by omega)) MM0 2 M1 hM1) (in_1 1 (by omega) (by omega)) sh_1 rfl rfl rfl ⟨Nat.le_of_ble_eq_true rfl, Nat.le_of_ble_eq_true rfl⟩ (Nat.le_of_ble_eq_true rfl) ⟨Nat.le_of_ble_eq_true rfl, Nat.le_of_ble_eq_true rfl⟩ dX10_init_20 ?_
  show NN X 1 ((h0, .inr (10, [.ref (a1 1), .null, .null, .int 0, .null, .null, .null, .null])) :: wl cy a1 [1, 2, 3, 4, 5, 6, 7, 8, 9, 10, 11, 12, 13] M1) 13 123 23 [(0, .ref h0)] []
  refine n_aload_n (pc := 23) 0 hX dX10_init_23 rfl ?_
  refine n_new (pc := 24) hX cw_10_20 ⟨Nat.le_of_ble_eq_true rfl, Nat.le_of_ble_eq_true rfl⟩ dX10_init_24 (fun q2 => ?_)
  refine n_dup (pc := 27) hX dX10_init_27 rfl ?_
  refine n_initN (pc := 28) (kc := 14) (ks := 128) hX ci_10_22 c_X2_init ⟨Nat.le_of_ble_eq_true rfl, Nat.le_of_ble_eq_true rfl⟩ ⟨Nat.le_of_ble_eq_true rfl, Nat.le_of_ble_eq_true rfl⟩ (Nat.le_of_ble_eq_true rfl) dX10_init_28 (fun a2 ea2 => ?_)
  subst ea2
  show NN X 1 ((h0, .inr (10, [.ref (a1 1), .null, .null, .int 0, .null, .null, .null, .null])) :: (wl cy a1 [1, 2, 3, 4, 5, 6, 7, 8, 9, 10, 11, 12, 13] M1 ++ wl cy a2 [14, 15, 16, 17, 18, 19, 20, 21, 22, 23, 24, 25, 26, 27, 28, 29, 30, 31, 32, 33, 34, 35, 36, 37, 38, 39, 40, 41, 42, 43, 44, 45, 46, 47, 48, 49, 50, 51, 52, 53, 54, 55, 56, 57, 58, 59, 60, 61, 62, 63, 64, 65, 66] MM0)) 66 620 31 [(0, .ref h0)] [.ref (a2 14), .ref h0]
  refine n_putF (pc := 31) hX hN ff_10_23 (Nat.le_of_ble_eq_true rfl) dX10_init_31 ?_
  show NN X 1 ((h0, .inr (10, [.ref (a1 1), .ref (a2 14), .null, .int 0, .null, .null, .null, .null])) :: (wl cy a1 [1, 2, 3, 4, 5, 6, 7, 8, 9, 10, 11, 12, 13] M1 ++ wl cy a2 [14, 15, 16, 17, 18, 19, 20, 21, 22, 23, 24, 25, 26, 27, 28, 29, 30, 31, 32, 33, 34, 35, 36, 37, 38, 39, 40, 41, 42, 43, 44, 45, 46, 47, 48, 49, 50, 51, 52, 53, 54, 55, 56, 57, 58, 59, 60, 61, 62, 63, 64, 65, 66] MM0)) 66 620 34 [(0, .ref h0)] []
  refine n_aload_n (pc := 34) 0 hX dX10_init_34 rfl ?_
  refine n_new (pc := 35) hX cw_10_7 ⟨Nat.le_of_ble_eq_true rfl, Nat.le_of_ble_eq_true rfl⟩ dX10_init_35 (fun q3 => ?_)
  refine n_dup (pc := 38) hX dX10_init_38 rfl ?_
  refine n_initN (pc := 39) (kc := 67) (ks := 627) hX ci_10_9 c_X6_init ⟨Nat.le_of_ble_eq_true rfl, Nat.le_of_ble_eq_true rfl⟩ ⟨Nat.le_of_ble_eq_true rfl, Nat.le_of_ble_eq_true rfl⟩ (Nat.le_of_ble_eq_true rfl) dX10_init_39 (fun a3 ea3 => ?_)
  subst ea3
  show NN X 1 ((h0, .inr (10, [.ref (a1 1), .ref (a2 14), .null, .int 0, .null, .null, .null, .null])) :: ((wl cy a1 [1, 2, 3, 4, 5, 6, 7, 8, 9, 10, 11, 12, 13] M1 ++ wl cy a2 [14, 15, 16, 17, 18, 19, 20, 21, 22, 23, 24, 25, 26, 27, 28, 29, 30, 31, 32, 33, 34, 35, 36, 37, 38, 39, 40, 41, 42, 43, 44, 45, 46, 47, 48, 49, 50, 51, 52, 53, 54, 55, 56, 57, 58, 59, 60, 61, 62, 63, 64, 65, 66] MM0) ++ wl cy a3 [1, 2, 3, 4, 5, 6, 7, 8, 9, 10, 11, 12, 13] MM0)) 79 743 42 [(0, .ref h0)] [.ref (a3 1), .ref h0]
  refine n_putF (pc := 42) hX hN ff_10_27 (Nat.le_of_ble_eq_true rfl) dX10_init_42 ?_
  show NN X 1 ((h0, .inr (10, [.ref (a1 1), .ref (a2 14), .ref (a3 1), .int 0, .null, .null, .null, .null])) :: ((wl cy a1 [1, 2, 3, 4, 5, 6, 7, 8, 9, 10, 11, 12, 13] M1 ++ wl cy a2 [14, 15, 16, 17, 18, 19, 20, 21, 22, 23, 24, 25, 26, 27, 28, 29, 30, 31, 32, 33, 34, 35, 36, 37, 38, 39, 40, 41, 42, 43, 44, 45, 46, 47, 48, 49, 50, 51, 52, 53, 54, 55, 56, 57, 58, 59, 60, 61, 62, 63, 64, 65, 66] MM0) ++ wl cy a3 [1, 2, 3, 4, 5, 6, 7, 8, 9, 10, 11, 12, 13] MM0)) 79 743 45 [(0, .ref h0)] []
  refine n_aload_n (pc := 45) 0 hX dX10_init_45 rfl ?_
  refine n_iconst (pc := 46) hX dX10_init_46 ic_0 ?_
  refine n_putI (pc := 47) hX pl_10_30 rfl rfl (Nat.le_of_ble_eq_true rfl) dX10_init_47 ?_
  show NN X 1 ((h0, .inr (10, [.ref (a1 1), .ref (a2 14), .ref (a3 1), .int 0, .null, .null, .null, .null])) :: ((wl cy a1 [1, 2, 3, 4, 5, 6, 7, 8, 9, 10, 11, 12, 13] M1 ++ wl cy a2 [14, 15, 16, 17, 18, 19, 20, 21, 22, 23, 24, 25, 26, 27, 28, 29, 30, 31, 32, 33, 34, 35, 36, 37, 38, 39, 40, 41, 42, 43, 44, 45, 46, 47, 48, 49, 50, 51, 52, 53, 54, 55, 56, 57, 58, 59, 60, 61, 62, 63, 64, 65, 66] MM0) ++ wl cy a3 [1, 2, 3, 4, 5, 6, 7, 8, 9, 10, 11, 12, 13] MM0)) 79 743 50 [(0, .ref h0)] []
  refine n_aload_n (pc := 50) 0 hX dX10_init_50 rfl ?_
  refine n_new (pc := 51) hX cw_10_34 ⟨Nat.le_of_ble_eq_true rfl, Nat.le_of_ble_eq_true rfl⟩ dX10_init_51 (fun q4 => ?_)
  refine n_dup (pc := 54) hX dX10_init_54 rfl ?_
  refine n_initN (pc := 55) (kc := 80) (ks := 753) hX ci_10_36 c_X8_init ⟨Nat.le_of_ble_eq_true rfl, Nat.le_of_ble_eq_true rfl⟩ ⟨Nat.le_of_ble_eq_true rfl, Nat.le_of_ble_eq_true rfl⟩ (Nat.le_of_ble_eq_true rfl) dX10_init_55 (fun a4 ea4 => ?_)
  subst ea4
  show NN X 1 ((h0, .inr (10, [.ref (a1 1), .ref (a2 14), .ref (a3 1), .int 0, .null, .null, .null, .null])) :: (((wl cy a1 [1, 2, 3, 4, 5, 6, 7, 8, 9, 10, 11, 12, 13] M1 ++ wl cy a2 [14, 15, 16, 17, 18, 19, 20, 21, 22, 23, 24, 25, 26, 27, 28, 29, 30, 31, 32, 33, 34, 35, 36, 37, 38, 39, 40, 41, 42, 43, 44, 45, 46, 47, 48, 49, 50, 51, 52, 53, 54, 55, 56, 57, 58, 59, 60, 61, 62, 63, 64, 65, 66] MM0) ++ wl cy a3 [1, 2, 3, 4, 5, 6, 7, 8, 9, 10, 11, 12, 13] MM0) ++ wl cy a4 [80, 81, 82, 83, 84, 85] MM0)) 85 859 58 [(0, .ref h0)] [.ref (a4 80), .ref h0]
  refine n_putF (pc := 58) hX hN ff_10_37 (Nat.le_of_ble_eq_true rfl) dX10_init_58 ?_
  show NN X 1 ((h0, .inr (10, [.ref (a1 1), .ref (a2 14), .ref (a3 1), .int 0, .ref (a4 80), .null, .null, .null])) :: (((wl cy a1 [1, 2, 3, 4, 5, 6, 7, 8, 9, 10, 11, 12, 13] M1 ++ wl cy a2 [14, 15, 16, 17, 18, 19, 20, 21, 22, 23, 24, 25, 26, 27, 28, 29, 30, 31, 32, 33, 34, 35, 36, 37, 38, 39, 40, 41, 42, 43, 44, 45, 46, 47, 48, 49, 50, 51, 52, 53, 54, 55, 56, 57, 58, 59, 60, 61, 62, 63, 64, 65, 66] MM0) ++ wl cy a3 [1, 2, 3, 4, 5, 6, 7, 8, 9, 10, 11, 12, 13] MM0) ++ wl cy a4 [80, 81, 82, 83, 84, 85] MM0)) 85 859 61 [(0, .ref h0)] []
  refine n_aload_n (pc := 61) 0 hX dX10_init_61 rfl ?_
  refine n_new (pc := 62) hX cw_10_41 ⟨Nat.le_of_ble_eq_true rfl, Nat.le_of_ble_eq_true rfl⟩ dX10_init_62 (fun q5 => ?_)
  refine n_dup (pc := 65) hX dX10_init_65 rfl ?_
  refine n_initN (pc := 66) (kc := 86) (ks := 865) hX ci_10_43 c_X9_init ⟨Nat.le_of_ble_eq_true rfl, Nat.le_of_ble_eq_true rfl⟩ ⟨Nat.le_of_ble_eq_true rfl, Nat.le_of_ble_eq_true rfl⟩ (Nat.le_of_ble_eq_true rfl) dX10_init_66 (fun a5 ea5 => ?_)
  subst ea5
  show NN X 1 ((h0, .inr (10, [.ref (a1 1), .ref (a2 14), .ref (a3 1), .int 0, .ref (a4 80), .null, .null, .null])) :: ((((wl cy a1 [1, 2, 3, 4, 5, 6, 7, 8, 9, 10, 11, 12, 13] M1 ++ wl cy a2 [14, 15, 16, 17, 18, 19, 20, 21, 22, 23, 24, 25, 26, 27, 28, 29, 30, 31, 32, 33, 34, 35, 36, 37, 38, 39, 40, 41, 42, 43, 44, 45, 46, 47, 48, 49, 50, 51, 52, 53, 54, 55, 56, 57, 58, 59, 60, 61, 62, 63, 64, 65, 66] MM0) ++ wl cy a3 [1, 2, 3, 4, 5, 6, 7, 8, 9, 10, 11, 12, 13] MM0) ++ wl cy a4 [80, 81, 82, 83, 84, 85] MM0) ++ wl cy a5 [86, 87, 88, 89] MM0)) 89 889 69 [(0, .ref h0)] [.ref (a5 86), .ref h0]
  refine n_putF (pc := 69) hX hN ff_10_44 (Nat.le_of_ble_eq_true rfl) dX10_init_69 ?_
  show NN X 1 ((h0, .inr (10, [.ref (a1 1), .ref (a2 14), .ref (a3 1), .int 0, .ref (a4 80), .ref (a5 86), .null, .null])) :: ((((wl cy a1 [1, 2, 3, 4, 5, 6, 7, 8, 9, 10, 11, 12, 13] M1 ++ wl cy a2 [14, 15, 16, 17, 18, 19, 20, 21, 22, 23, 24, 25, 26, 27, 28, 29, 30, 31, 32, 33, 34, 35, 36, 37, 38, 39, 40, 41, 42, 43, 44, 45, 46, 47, 48, 49, 50, 51, 52, 53, 54, 55, 56, 57, 58, 59, 60, 61, 62, 63, 64, 65, 66] MM0) ++ wl cy a3 [1, 2, 3, 4, 5, 6, 7, 8, 9, 10, 11, 12, 13] MM0) ++ wl cy a4 [80, 81, 82, 83, 84, 85] MM0) ++ wl cy a5 [86, 87, 88, 89] MM0)) 89 889 72 [(0, .ref h0)] []
  refine n_aload_n (pc := 72) 0 hX dX10_init_72 rfl ?_
  refine n_new (pc := 73) hX cw_10_48 ⟨Nat.le_of_ble_eq_true rfl, Nat.le_of_ble_eq_true rfl⟩ dX10_init_73 (fun q6 => ?_)
  refine n_dup (pc := 76) hX dX10_init_76 rfl ?_
  refine n_initN (pc := 77) (kc := 90) (ks := 891) hX ci_10_50 c_X3_init ⟨Nat.le_of_ble_eq_true rfl, Nat.le_of_ble_eq_true rfl⟩ ⟨Nat.le_of_ble_eq_true rfl, Nat.le_of_ble_eq_true rfl⟩ (Nat.le_of_ble_eq_true rfl) dX10_init_77 (fun a6 ea6 => ?_)
  subst ea6
  show NN X 1 ((h0, .inr (10, [.ref (a1 1), .ref (a2 14), .ref (a3 1), .int 0, .ref (a4 80), .ref (a5 86), .null, .null])) :: (((((wl cy a1 [1, 2, 3, 4, 5, 6, 7, 8, 9, 10, 11, 12, 13] M1 ++ wl cy a2 [14, 15, 16, 17, 18, 19, 20, 21, 22, 23, 24, 25, 26, 27, 28, 29, 30, 31, 32, 33, 34, 35, 36, 37, 38, 39, 40, 41, 42, 43, 44, 45, 46, 47, 48, 49, 50, 51, 52, 53, 54, 55, 56, 57, 58, 59, 60, 61, 62, 63, 64, 65, 66] MM0) ++ wl cy a3 [1, 2, 3, 4, 5, 6, 7, 8, 9, 10, 11, 12, 13] MM0) ++ wl cy a4 [80, 81, 82, 83, 84, 85] MM0) ++ wl cy a5 [86, 87, 88, 89] MM0) ++ wl cy a6 [90, 91] MM0)) 91 894 80 [(0, .ref h0)] [.ref (a6 90), .ref h0]
  refine n_putF (pc := 80) hX hN ff_10_51 (Nat.le_of_ble_eq_true rfl) dX10_init_80 ?_
  show NN X 1 ((h0, .inr (10, [.ref (a1 1), .ref (a2 14), .ref (a3 1), .int 0, .ref (a4 80), .ref (a5 86), .ref (a6 90), .null])) :: (((((wl cy a1 [1, 2, 3, 4, 5, 6, 7, 8, 9, 10, 11, 12, 13] M1 ++ wl cy a2 [14, 15, 16, 17, 18, 19, 20, 21, 22, 23, 24, 25, 26, 27, 28, 29, 30, 31, 32, 33, 34, 35, 36, 37, 38, 39, 40, 41, 42, 43, 44, 45, 46, 47, 48, 49, 50, 51, 52, 53, 54, 55, 56, 57, 58, 59, 60, 61, 62, 63, 64, 65, 66] MM0) ++ wl cy a3 [1, 2, 3, 4, 5, 6, 7, 8, 9, 10, 11, 12, 13] MM0) ++ wl cy a4 [80, 81, 82, 83, 84, 85] MM0) ++ wl cy a5 [86, 87, 88, 89] MM0) ++ wl cy a6 [90, 91] MM0)) 91 894 83 [(0, .ref h0)] []
  refine n_aload_n (pc := 83) 0 hX dX10_init_83 rfl ?_
  refine n_new (pc := 84) hX cw_10_55 ⟨Nat.le_of_ble_eq_true rfl, Nat.le_of_ble_eq_true rfl⟩ dX10_init_84 (fun q7 => ?_)
  refine n_dup (pc := 87) hX dX10_init_87 rfl ?_
  refine n_initN (pc := 88) (kc := 92) (ks := 897) hX ci_10_57 c_X5_init ⟨Nat.le_of_ble_eq_true rfl, Nat.le_of_ble_eq_true rfl⟩ ⟨Nat.le_of_ble_eq_true rfl, Nat.le_of_ble_eq_true rfl⟩ (Nat.le_of_ble_eq_true rfl) dX10_init_88 (fun a7 ea7 => ?_)
  subst ea7
  show NN X 1 ((h0, .inr (10, [.ref (a1 1), .ref (a2 14), .ref (a3 1), .int 0, .ref (a4 80), .ref (a5 86), .ref (a6 90), .null])) :: ((((((wl cy a1 [1, 2, 3, 4, 5, 6, 7, 8, 9, 10, 11, 12, 13] M1 ++ wl cy a2 [14, 15, 16, 17, 18, 19, 20, 21, 22, 23, 24, 25, 26, 27, 28, 29, 30, 31, 32, 33, 34, 35, 36, 37, 38, 39, 40, 41, 42, 43, 44, 45, 46, 47, 48, 49, 50, 51, 52, 53, 54, 55, 56, 57, 58, 59, 60, 61, 62, 63, 64, 65, 66] MM0) ++ wl cy a3 [1, 2, 3, 4, 5, 6, 7, 8, 9, 10, 11, 12, 13] MM0) ++ wl cy a4 [80, 81, 82, 83, 84, 85] MM0) ++ wl cy a5 [86, 87, 88, 89] MM0) ++ wl cy a6 [90, 91] MM0) ++ wl cy a7 [92, 93, 94] MM0)) 94 942 91 [(0, .ref h0)] [.ref (a7 92), .ref h0]
  refine n_putF (pc := 91) hX hN ff_10_58 (Nat.le_of_ble_eq_true rfl) dX10_init_91 ?_
  show NN X 1 ((h0, .inr (10, [.ref (a1 1), .ref (a2 14), .ref (a3 1), .int 0, .ref (a4 80), .ref (a5 86), .ref (a6 90), .ref (a7 92)])) :: ((((((wl cy a1 [1, 2, 3, 4, 5, 6, 7, 8, 9, 10, 11, 12, 13] M1 ++ wl cy a2 [14, 15, 16, 17, 18, 19, 20, 21, 22, 23, 24, 25, 26, 27, 28, 29, 30, 31, 32, 33, 34, 35, 36, 37, 38, 39, 40, 41, 42, 43, 44, 45, 46, 47, 48, 49, 50, 51, 52, 53, 54, 55, 56, 57, 58, 59, 60, 61, 62, 63, 64, 65, 66] MM0) ++ wl cy a3 [1, 2, 3, 4, 5, 6, 7, 8, 9, 10, 11, 12, 13] MM0) ++ wl cy a4 [80, 81, 82, 83, 84, 85] MM0) ++ wl cy a5 [86, 87, 88, 89] MM0) ++ wl cy a6 [90, 91] MM0) ++ wl cy a7 [92, 93, 94] MM0)) 94 942 94 [(0, .ref h0)] []
  exact n_ret (pc := 94) (fun c => if c < 1 then h0 else if c < 14 then a1 c else if c < 67 then a2 c else if c < 80 then a3 (c - 66) else if c < 86 then a4 c else if c < 90 then a5 c else if c < 92 then a6 c else a7 c) hX hR rfl rfl dX10_init_94
