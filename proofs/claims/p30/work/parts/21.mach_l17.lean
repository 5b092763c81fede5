set_option maxHeartbeats 4000000 in
set_option maxRecDepth 100000 in
theorem c_L_there {ad : Nat → Nat} {cs : List Nat} (hcs : ∀ k, 0 ≤ k → k < 13 → k ∈ cs) (M : Mm) (w1 : Int32) (w2 : Int32) (q : Int64) (h : fL_there M w1 w2 = some q) : CT ad cs yL_there cL_there 3 (some .long) 3 78 [.ref (ad 0), .int w1, .int w2] M (some (.long q)) M := by
  refine CT.of RL (by decide +kernel) rfl (Nat.le_of_ble_eq_true rfl) (fun X hX hR => ?_)
  unfold fL_there at h
  show VV X 3 ad cs M 0 [(0, .ref (ad 0)), (1, .int w1), (2, .int w2)] []
  refine v_aload_n (pc := 0) 0 hX dL_there_0 rfl ?_
  refine v_aload_n (pc := 1) 0 hX dL_there_1 rfl ?_
  refine v_iload_n (pc := 2) 1 hX dL_there_2 rfl ?_
  refine v_iconst (pc := 3) hX dL_there_3 ic_0 ?_
  obtain ⟨x2, h1, h⟩ := b1_e h
  refine v_callS (pc := 4) [.ref (ad 0), .int w1, .int 0] (some (.int x2)) M hX cv_L_61 (c_L_at (sub_cs hcs (Nat.le_of_ble_eq_true rfl) (Nat.le_of_ble_eq_true rfl)) M w1 0 x2 h1) rfl rfl ⟨Nat.le_of_ble_eq_true rfl, Nat.le_of_ble_eq_true rfl⟩ (Nat.le_of_ble_eq_true rfl) dL_there_4 ?_
  show VV X 3 ad cs M 7 [(0, .ref (ad 0)), (1, .int w1), (2, .int w2)] [.int x2, .ref (ad 0)]
  refine v_aload_n (pc := 7) 0 hX dL_there_7 rfl ?_
  refine v_iload_n (pc := 8) 1 hX dL_there_8 rfl ?_
  refine v_iconst (pc := 9) hX dL_there_9 ic_1 ?_
  obtain ⟨x4, h3, h⟩ := b1_e h
  refine v_callS (pc := 10) [.ref (ad 0), .int w1, .int 1] (some (.int x4)) M hX cv_L_61 (c_L_at (sub_cs hcs (Nat.le_of_ble_eq_true rfl) (Nat.le_of_ble_eq_true rfl)) M w1 1 x4 h3) rfl rfl ⟨Nat.le_of_ble_eq_true rfl, Nat.le_of_ble_eq_true rfl⟩ (Nat.le_of_ble_eq_true rfl) dL_there_10 ?_
  show VV X 3 ad cs M 13 [(0, .ref (ad 0)), (1, .int w1), (2, .int w2)] [.int x4, .int x2, .ref (ad 0)]
  refine v_aload_n (pc := 13) 0 hX dL_there_13 rfl ?_
  refine v_iload_n (pc := 14) 1 hX dL_there_14 rfl ?_
  refine v_iconst (pc := 15) hX dL_there_15 ic_2 ?_
  obtain ⟨x6, h5, h⟩ := b1_e h
  refine v_callS (pc := 16) [.ref (ad 0), .int w1, .int 2] (some (.int x6)) M hX cv_L_61 (c_L_at (sub_cs hcs (Nat.le_of_ble_eq_true rfl) (Nat.le_of_ble_eq_true rfl)) M w1 2 x6 h5) rfl rfl ⟨Nat.le_of_ble_eq_true rfl, Nat.le_of_ble_eq_true rfl⟩ (Nat.le_of_ble_eq_true rfl) dL_there_16 ?_
  show VV X 3 ad cs M 19 [(0, .ref (ad 0)), (1, .int w1), (2, .int w2)] [.int x6, .int x4, .int x2, .ref (ad 0)]
  refine v_iload_n (pc := 19) 2 hX dL_there_19 rfl ?_
  obtain ⟨y8, h7, h⟩ := b1_e h
  refine v_callV (pc := 20) [.int x2, .int x4, .int x6, .int w2] (some (.long y8)) M hX cv_L_69 (c_X10_value (sub_cs hcs (Nat.le_of_ble_eq_true rfl) (Nat.le_of_ble_eq_true rfl)) M x2 x4 x6 w2 y8 h7) (hcs 0 (Nat.le_of_ble_eq_true rfl) (Nat.le_of_ble_eq_true rfl)) sh_0 rfl rfl rfl ⟨Nat.le_of_ble_eq_true rfl, Nat.le_of_ble_eq_true rfl⟩ (Nat.le_of_ble_eq_true rfl) dL_there_20 ?_
  show VV X 3 ad cs M 23 [(0, .ref (ad 0)), (1, .int w1), (2, .int w2)] [.long y8]
  obtain rfl := Option.some.inj h
  exact v_lret (pc := 23) hX hR dL_there_23
