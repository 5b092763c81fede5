theorem sub_cs {cs : List Nat} {a b a' b' : Nat} (h : ∀ k, a ≤ k → k < b → k ∈ cs) (h1 : a ≤ a') (h2 : b' ≤ b) : ∀ k, a' ≤ k → k < b' → k ∈ cs := fun k q1 q2 => h k (Nat.le_trans h1 q1) (Nat.lt_of_lt_of_le q2 h2)
theorem nn_of {x : Int32} (h : 0 ≤ x) : ¬ x < 0 := by rw [Int32.lt_iff_toInt_lt]; rw [Int32.le_iff_toInt_le] at h; omega
theorem u2_b {α β γ : Type} {f : α → β → Option γ} {a : α} {b : β} {q : γ} (h : u2 f (a, b) = some q) : f a b = some q := h
theorem u3_b {α β γ δ : Type} {f : α → β → γ → Option δ} {a : α} {b : β} {c : γ} {q : δ} (h : u3 f (a, b, c) = some q) : f a b c = some q := h
theorem u4_b {α β γ δ ε : Type} {f : α → β → γ → δ → Option ε} {a : α} {b : β} {c : γ} {d : δ} {q : ε} (h : u4 f (a, b, c, d) = some q) : f a b c d = some q := h
theorem u5_b {α β γ δ ε ζ : Type} {f : α → β → γ → δ → ε → Option ζ} {a : α} {b : β} {c : γ} {d : δ} {e : ε} {q : ζ} (h : u5 f (a, b, c, d, e) = some q) : f a b c d e = some q := h
theorem u6_b {α β γ δ ε ζ η : Type} {f : α → β → γ → δ → ε → ζ → Option η} {a : α} {b : β} {c : γ} {d : δ} {e : ε} {z : ζ} {q : η} (h : u6 f (a, b, c, d, e, z) = some q) : f a b c d e z = some q := h
set_option maxHeartbeats 4000000 in
set_option maxRecDepth 100000 in
theorem c_L_cell {ad : Nat → Nat} {cs : List Nat} (b L : Nat) (xs : Nat → Int32) (M : Mm) (w1 : Int32) (q : Int32) (h : fL_cell L xs w1 = some q) : CTs b L xs ad cs yL_cell cL_cell 2 (some .int) 0 0 [.ref b, .int w1] M (some (.int q)) M := by
  refine CTs.of RL (by decide +kernel) rfl (Nat.le_of_ble_eq_true rfl) (fun X hX hR hZ => ?_)
  unfold fL_cell at h
  show VV X 2 ad cs M 0 [(0, .ref b), (1, .int w1)] []
  refine v_iload_n (pc := 0) 1 hX dL_cell_0 rfl ?_
  refine v_aload_n (pc := 1) 0 hX dL_cell_1 rfl ?_
  refine v_slen (pc := 2) hX hZ dL_cell_2 ?_
  refine v_icmp_ge (pc := 3) (tgt := 12) hX dL_cell_3 (by decide) (fun h1 => ?_) (fun h1 => ?_)
  · have h := if_t h h1
    refine v_ldc (pc := 12) hX kc_L_7 dL_cell_12 ?_
    refine v_iload_n (pc := 14) 1 hX dL_cell_14 rfl ?_
    refine v_imul (pc := 15) hX dL_cell_15 ?_
    refine v_ldc (pc := 16) hX kc_L_8 dL_cell_16 ?_
    refine v_iadd (pc := 18) hX dL_cell_18 ?_
    obtain rfl := Option.some.inj h
    exact v_iret (pc := 19) hX hR dL_cell_19
  · have h := if_f h h1
    refine v_aload_n (pc := 6) 0 hX dL_cell_6 rfl ?_
    refine v_iload_n (pc := 7) 1 hX dL_cell_7 rfl ?_
    obtain ⟨g2, h⟩ := gd_e h
    refine v_sld (pc := 8) hX hZ g2 dL_cell_8 ?_
    refine v_goto (pc := 9) (tgt := 19) hX dL_cell_9 (by decide) ?_
    obtain rfl := Option.some.inj h
    exact v_iret (pc := 19) hX hR dL_cell_19
