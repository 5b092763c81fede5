set_option maxHeartbeats 4000000 in
set_option maxRecDepth 100000 in
theorem c_L_low {ad : Nat → Nat} {cs : List Nat} (M : Mm) (w0 : Int32) (w1 : Int32) (q : Int32) (h : fL_low w0 w1 = some q) : CT ad cs yL_low cL_low 2 (some .int) 0 0 [.int w0, .int w1] M (some (.int q)) M := by
  refine CT.of RL (by decide +kernel) rfl (Nat.le_of_ble_eq_true rfl) (fun X hX hR => ?_)
  unfold fL_low at h
  show VV X 2 ad cs M 0 [(0, .int w0), (1, .int w1)] []
  refine v_iload_n (pc := 0) 0 hX dL_low_0 rfl ?_
  refine v_ldc (pc := 1) hX kc_L_9 dL_low_1 ?_
  refine v_iand (pc := 3) hX dL_low_3 ?_
  refine v_iload_n (pc := 4) 1 hX dL_low_4 rfl ?_
  obtain ⟨g1, h⟩ := gd_e h
  refine v_irem (pc := 5) hX dL_low_5 g1 ?_
  obtain rfl := Option.some.inj h
  exact v_iret (pc := 6) hX hR dL_low_6
