set_option maxHeartbeats 4000000 in
set_option maxRecDepth 100000 in
theorem c_L_canTry {ad : Nat → Nat} {cs : List Nat} (hcs : ∀ k, 0 ≤ k → k < 81 → k ∈ cs) (M : Mm) (w1 : Int32) (q : Int32) (h : fL_canTry M w1 = some q) : CT ad cs yL_canTry cL_canTry 2 (some .boolean) 4 89 [.ref (ad 0), .int w1] M (some (.int q)) M := by
  refine CT.of RL (by decide +kernel) rfl (Nat.le_of_ble_eq_true rfl) (fun X hX hR => ?_)
  unfold fL_canTry at h
  show VV X 2 ad cs M 0 [(0, .ref (ad 0)), (1, .int w1)] []
  refine v_aload_n (pc := 0) 0 hX dL_canTry_0 rfl ?_
  refine v_aload_n (pc := 1) 0 hX dL_canTry_1 rfl ?_
  refine v_iload_n (pc := 2) 1 hX dL_canTry_2 rfl ?_
  refine v_iconst (pc := 3) hX dL_canTry_3 ic_0 ?_
  obtain ⟨x2, h1, h⟩ := b1_e h
  refine v_callS (pc := 4) [.ref (ad 0), .int w1, .int 0] (some (.int x2)) M hX cv_L_61 (c_L_at (sub_cs hcs (Nat.le_of_ble_eq_true rfl) (Nat.le_of_ble_eq_true rfl)) M w1 0 x2 h1) rfl rfl ⟨Nat.le_of_ble_eq_true rfl, Nat.le_of_ble_eq_true rfl⟩ (Nat.le_of_ble_eq_true rfl) dL_canTry_4 ?_
  show VV X 2 ad cs M 7 [(0, .ref (ad 0)), (1, .int w1)] [.int x2, .ref (ad 0)]
  refine v_aload_n (pc := 7) 0 hX dL_canTry_7 rfl ?_
  refine v_iload_n (pc := 8) 1 hX dL_canTry_8 rfl ?_
  refine v_iconst (pc := 9) hX dL_canTry_9 ic_1 ?_
  obtain ⟨x4, h3, h⟩ := b1_e h
  refine v_callS (pc := 10) [.ref (ad 0), .int w1, .int 1] (some (.int x4)) M hX cv_L_61 (c_L_at (sub_cs hcs (Nat.le_of_ble_eq_true rfl) (Nat.le_of_ble_eq_true rfl)) M w1 1 x4 h3) rfl rfl ⟨Nat.le_of_ble_eq_true rfl, Nat.le_of_ble_eq_true rfl⟩ (Nat.le_of_ble_eq_true rfl) dL_canTry_10 ?_
  show VV X 2 ad cs M 13 [(0, .ref (ad 0)), (1, .int w1)] [.int x4, .int x2, .ref (ad 0)]
  refine v_aload_n (pc := 13) 0 hX dL_canTry_13 rfl ?_
  refine v_iload_n (pc := 14) 1 hX dL_canTry_14 rfl ?_
  refine v_iconst (pc := 15) hX dL_canTry_15 ic_2 ?_
  obtain ⟨x6, h5, h⟩ := b1_e h
  refine v_callS (pc := 16) [.ref (ad 0), .int w1, .int 2] (some (.int x6)) M hX cv_L_61 (c_L_at (sub_cs hcs (Nat.le_of_ble_eq_true rfl) (Nat.le_of_ble_eq_true rfl)) M w1 2 x6 h5) rfl rfl ⟨Nat.le_of_ble_eq_true rfl, Nat.le_of_ble_eq_true rfl⟩ (Nat.le_of_ble_eq_true rfl) dL_canTry_16 ?_
  show VV X 2 ad cs M 19 [(0, .ref (ad 0)), (1, .int w1)] [.int x6, .int x4, .int x2, .ref (ad 0)]
  obtain ⟨x8, h7, h⟩ := b1_e h
  refine v_callS (pc := 19) [.ref (ad 0), .int x2, .int x4, .int x6] (some (.int x8)) M hX cv_L_65 (c_L_isAllowed (sub_cs hcs (Nat.le_of_ble_eq_true rfl) (Nat.le_of_ble_eq_true rfl)) M x2 x4 x6 x8 h7) rfl rfl ⟨Nat.le_of_ble_eq_true rfl, Nat.le_of_ble_eq_true rfl⟩ (Nat.le_of_ble_eq_true rfl) dL_canTry_19 ?_
  show VV X 2 ad cs M 22 [(0, .ref (ad 0)), (1, .int w1)] [.int x8]
  obtain ⟨g9, h⟩ := gd_e h
  obtain rfl := Option.some.inj h
  exact v_zret (pc := 22) hX hR g9 dL_canTry_22
