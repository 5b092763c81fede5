/-! ===== type, keep, restore, undo ===== -/
theorem R.text {M M' : Mm} (h : R M) (O : ∀ c j, ¬ (c = 80 ∧ j = 0) → c ≠ 81 → c ≠ 99 → ¬ (c = 95 ∧ j = 6) → ¬ tmpP c j → M'.1 c j = M.1 c j) (ht : TR M') : R M' := by
  obtain ⟨h1, h2, h3, -, h5⟩ := h
  have B : ∀ c, c ≤ 67 → ∀ k j, sIn k j → M'.1 (c + k) j = M.1 (c + k) j := fun c hc k j hk => by
    have : k < 13 := by unfold sIn at hk; omega
    exact O _ _ (by omega) (by omega) (by omega) (by omega) (by unfold tmpP; omega)
  refine ⟨h1.cong (B 1 (by omega)) (fun j _ => O 96 j (by omega) (by omega) (by omega) (by omega) (by unfold tmpP; omega)), ?_, ?_, ht, ?_⟩
  · obtain ⟨g, g1, g2, g3, g4⟩ := h2
    exact ⟨g, g1, (O 14 0 (by omega) (by omega) (by omega) (by omega) (by unfold tmpP; omega)).trans g2, (O 95 3 (by omega) (by omega) (by omega) (by omega) (by unfold tmpP; omega)).trans g3, fun i hi => (g4 i hi).cong (B _ (by omega)) (fun j _ => O 97 _ (by omega) (by omega) (by omega) (by omega) (by unfold tmpP; omega))⟩
  · obtain ⟨⟨q1, q2⟩, q3⟩ := h3
    have e1 := O 95 4 (by omega) (by omega) (by omega) (by omega) (by unfold tmpP; omega)
    exact ⟨⟨(O 0 3 (by omega) (by omega) (by omega) (by omega) (by unfold tmpP; omega)).trans (q1.trans e1.symm), by rw [e1]; exact q2⟩, fun hq => (q3 (by rw [← e1]; exact hq)).cong (B 67 (by omega)) (fun j _ => O 98 _ (by omega) (by omega) (by omega) (by omega) (by unfold tmpP; omega))⟩
  · exact ⟨fun i hi => by rw [O _ _ (by omega) (by omega) (by omega) (by omega) (by unfold tmpP; omega)]; exact h5.1 i hi, by rw [O _ _ (by omega) (by omega) (by omega) (by omega) (by unfold tmpP; omega)]; exact h5.2⟩
theorem bd_s {α β : Type} (e : α) (k : α → Option β) : bd e k = k e := rfl
theorem p_type {M : Mm} (h : R M) (w : Int32) : Ok2 (fun M => fX10_type M w) (fun M => fX11_type M w) M := by
  obtain ⟨l, l1, l2, l3, l4⟩ := h.2.2.2.1
  have t32 : (32 : Int32).toInt = 32 := by decide
  have t126 : (126 : Int32).toInt = 126 := by decide
  rcases in_ab w 32 126 with h1 | ⟨h1, ha, hb⟩
  · exact .no h _ (by show fX10_type M w = _; unfold fX10_type; rw [within_in, h1, b1_s, i00]) (by show fX11_type M w = _; unfold fX11_type; rw [h1, b1_s, i00])
  have i2 : i2c w = w := lg_i2c_word (by omega) (by omega)
  rcases Nat.lt_or_ge l 60 with hl | hl
  · refine ⟨nI (l + 1), stI (stI M 81 l w) 80 0 (nI (l + 1)), stI (stI (stI (stI M 81 l w) 80 0 (nI (l + 1))) 99 l w) 95 6 (nI (l + 1)), ?_, ?_, ?_⟩
    · show fX10_type M w = _
      unfold fX10_type fX8_append
      rw [within_in, h1, b1_s, i10, l2, if_pos (show nI l < 60 from ltn (t := 60) (by omega) (by omega) hl), if_neg (show ¬ 60 ≤ nI l from ngen (t := 60) (by omega) (by omega) hl), gd_t (inbn hl (by omega))]
      show some ((stI (stI M 81 (ix (nI l)) w) 80 0 ((stI M 81 (ix (nI l)) w).1 80 0 + 1)).1 80 0, stI (stI M 81 (ix (nI l)) w) 80 0 ((stI M 81 (ix (nI l)) w).1 80 0 + 1)) = _
      rw [ixn (by omega), stI_rd M 81, if_neg (by omega), l2, nI_1, stI_rd, if_pos ⟨rfl, rfl⟩]
    · show fX11_type _ w = _
      obtain ⟨M1, e1⟩ : ∃ M1, M1 = stI (stI M 81 l w) 80 0 (nI (l + 1)) := ⟨_, rfl⟩
      have e6 : M1.1 95 6 = nI l := by rw [e1, stI_rd, if_neg (by omega), stI_rd, if_neg (by omega), l3]
      rw [← e1]
      unfold fX11_type
      rw [h1, b1_s, i10, e6, if_neg (fun q => by have := (neq (a := l) (b := 60) (by omega) (by omega)).mp q; omega), gd_t (inbn hl (by omega))]
      show some ((stI (stI M1 99 (ix (nI l)) (i2c w)) 95 6 ((stI M1 99 (ix (nI l)) (i2c w)).1 95 6 + 1)).1 95 6, stI (stI M1 99 (ix (nI l)) (i2c w)) 95 6 ((stI M1 99 (ix (nI l)) (i2c w)).1 95 6 + 1)) = _
      rw [ixn (by omega), i2, stI_rd M1 99, if_neg (by omega), e6, nI_1, stI_rd, if_pos ⟨rfl, rfl⟩]
    · refine h.text (fun c j a b c' d _ => by rw [stI_rd, if_neg (by omega), stI_rd, if_neg (by omega), stI_rd, if_neg (by omega), stI_rd, if_neg (by omega)]) ⟨l + 1, by omega, ?_, ?_, fun i hi => ?_⟩
      · rw [stI_rd, if_neg (by omega), stI_rd, if_neg (by omega), stI_rd, if_pos (by omega)]
      · rw [stI_rd, if_pos (by omega)]
      · have r81 : (stI (stI (stI (stI M 81 l w) 80 0 (nI (l + 1))) 99 l w) 95 6 (nI (l + 1))).1 81 i = if i = l then w else M.1 81 i := by
          rw [stI_rd, if_neg (by omega), stI_rd, if_neg (by omega), stI_rd, if_neg (by omega), stI_rd]
          by_cases q : i = l
          · rw [if_pos ⟨rfl, q⟩, if_pos q]
          · rw [if_neg (by omega), if_neg q]
        have r99 : (stI (stI (stI (stI M 81 l w) 80 0 (nI (l + 1))) 99 l w) 95 6 (nI (l + 1))).1 99 i = if i = l then w else M.1 99 i := by
          rw [stI_rd, if_neg (by omega), stI_rd]
          by_cases q : i = l
          · rw [if_pos ⟨rfl, q⟩, if_pos q]
          · rw [if_neg (by omega), if_neg q, stI_rd, if_neg (by omega), stI_rd, if_neg (by omega)]
        rw [r81, r99]
        by_cases q : i = l
        · rw [if_pos q, if_pos q]; exact ⟨rfl, by omega, by omega⟩
        · rw [if_neg q, if_neg q]; exact l4 i (by omega)
  · obtain rfl : l = 60 := by omega
    exact .no h (-1000003) (by show fX10_type M w = _; unfold fX10_type; rw [within_in, h1, b1_s, i10, l2, if_neg (by decide)]) (by show fX11_type M w = _; unfold fX11_type; rw [h1, b1_s, i10, l3, if_pos (show nI 60 = 60 from rfl)])
/-- the reference copies a row of 111 -/
theorem keepM (M : Mm) : ∃ M', itr (fX11_keep_L7) 1000 (0, M) = some M' ∧ (∀ j, j < 111 → M'.1 98 j = M.1 96 j) ∧ ∀ c j, c ≠ 98 → M'.1 c j = M.1 c j := by
  obtain ⟨M', f, a, -, c⟩ := copy_loop (body := fX11_keep_L7) (M := M) (s := 96) (d := 98) (so := 0) (dof := 0) (n := 111) (by omega) (Or.inl (by omega)) (fun i M' hi q1 q2 => by
    unfold fX11_keep_L7 u2 bd
    show (if 111 ≤ nI i then _ else _) = _
    rw [if_neg (show ¬ 111 ≤ nI i from ngen (t := 111) (by omega) (by omega) hi), gd_t (inbn (by omega) (by omega)), ixn (by omega), nI_1, Nat.zero_add]) (fun M' q1 q2 => by
    unfold fX11_keep_L7 u2
    exact if_pos (show (111 : Int32) ≤ nI 111 by decide))
  exact ⟨M', f, fun j hj => by have := a j hj; rw [Nat.zero_add] at this; exact this, c⟩
theorem restoreM (M : Mm) : ∃ M', itr (fX11_restore_L16) 1000 (0, M) = some M' ∧ (∀ j, j < 111 → M'.1 96 j = M.1 98 j) ∧ ∀ c j, c ≠ 96 → M'.1 c j = M.1 c j := by
  obtain ⟨M', f, a, -, c⟩ := copy_loop (body := fX11_restore_L16) (M := M) (s := 98) (d := 96) (so := 0) (dof := 0) (n := 111) (by omega) (Or.inl (by omega)) (fun i M' hi q1 q2 => by
    unfold fX11_restore_L16 u2 bd
    show (if 111 ≤ nI i then _ else _) = _
    rw [if_neg (show ¬ 111 ≤ nI i from ngen (t := 111) (by omega) (by omega) hi), gd_t (inbn (by omega) (by omega)), ixn (by omega), nI_1, Nat.zero_add]) (fun M' q1 q2 => by
    unfold fX11_restore_L16 u2
    exact if_pos (show (111 : Int32) ≤ nI 111 by decide))
  exact ⟨M', f, fun j hj => by have := a j hj; rw [Nat.zero_add] at this; exact this, c⟩
theorem p_keep {M : Mm} (h : R M) : Ok2 fX10_keep fX11_keep M := by
  obtain ⟨h1, h2, h3, h4, h5⟩ := id h
  obtain ⟨n, t, d, e, k, hn, hsc, hb', ht, hd, hl⟩ := id h1
  have a3 : M.1 2 0 = nI t := hn.2.2.1.1
  have a4 : M.1 96 1 = nI t := hn.2.2.1.2
  have flag : M.1 11 8 = 0 ∨ M.1 11 8 = 1 := by
    have s7 : M.1 11 8 = M.1 96 11 := hsc.1.2.2.2.2.2.2
    rw [s7]; exact hsc.2.2.2.1
  obtain ⟨M1, f1, c1, o1⟩ := cp6 (c := 67) (o := 1) M (by omega) flag
  obtain ⟨M2, e2⟩ : ∃ M2, M2 = stI M1 0 3 1 := ⟨_, rfl⟩
  obtain ⟨M4, f4, c4, o4⟩ := keepM (stI M2 95 4 1)
  have r2 : ∀ c j, (c < 67 ∨ 80 ≤ c) → ¬ (c = 0 ∧ j = 3) → M2.1 c j = M.1 c j := fun c j q1 q2 => by rw [e2, stI_rd, if_neg q2, o1 c j (by omega)]
  have O : ∀ c j, (c < 67 ∨ 80 ≤ c) → ¬ (c = 0 ∧ j = 3) → c ≠ 98 → ¬ (c = 95 ∧ j = 4) → M4.1 c j = M.1 c j := fun c j q1 q2 q3 q4 => by rw [o4 c j q3, stI_rd, if_neg q4, r2 c j q1 q2]
  refine ⟨nI t, M2, M4, ?_, ?_, ?_, ?_, ?_, ?_, ?_⟩
  · unfold fX10_keep
    rw [f1, b1_s]
    show some ((stI M1 0 3 1).1 2 0, stI M1 0 3 1) = _
    rw [← e2, r2 2 0 (by omega) (by omega), a3]
  · unfold fX11_keep
    rw [bd_s, f4, b1_s, O 96 1 (by omega) (by omega) (by omega) (by omega), a4]
  · exact h1.cong (fun k j hk => by
      have : k < 13 := by unfold sIn at hk; omega
      exact O _ _ (by omega) (by omega) (by omega) (by omega)) (fun j _ => O 96 j (by omega) (by omega) (by omega) (by omega))
  · obtain ⟨g, g1, g2, g3, g4⟩ := h2
    exact ⟨g, g1, (O 14 0 (by omega) (by omega) (by omega) (by omega)).trans g2, (O 95 3 (by omega) (by omega) (by omega) (by omega)).trans g3, fun i hi => (g4 i hi).cong (fun k j hk => by
      have : k < 13 := by unfold sIn at hk; omega
      exact O _ _ (by omega) (by omega) (by omega) (by omega)) (fun j _ => O 97 _ (by omega) (by omega) (by omega) (by omega))⟩
  · have e1 : M4.1 95 4 = 1 := by rw [o4 95 4 (by omega), stI_rd, if_pos ⟨rfl, rfl⟩]
    have e0 : M4.1 0 3 = 1 := by rw [o4 0 3 (by omega), stI_rd, if_neg (by omega), e2, stI_rd, if_pos ⟨rfl, rfl⟩]
    refine ⟨⟨e0.trans e1.symm, Or.inr e1⟩, fun _ => h1.cong (fun k j hk => ?_) (fun j hj => ?_)⟩
    · show M4.1 (67 + k) j = M.1 (1 + k) j
      have : k < 13 := by unfold sIn at hk; omega
      rw [o4 _ _ (by omega), stI_rd, if_neg (by omega), e2, stI_rd, if_neg (by omega)]
      exact c1 k j hk
    · rw [c4 j hj, stI_rd, if_neg (by omega), r2 96 j (by omega) (by omega)]
  · obtain ⟨l, l1, l2, l3, l4⟩ := h4
    refine ⟨l, l1, (O 80 0 (by omega) (by omega) (by omega) (by omega)).trans l2, (O 95 6 (by omega) (by omega) (by omega) (by omega)).trans l3, fun i hi => ?_⟩
    rw [O 81 i (by omega) (by omega) (by omega) (by omega), O 99 i (by omega) (by omega) (by omega) (by omega)]
    exact l4 i hi
  · refine ⟨fun i hi => by rw [O _ _ (by omega) (by omega) (by omega) (by omega)]; exact h5.1 i hi, ?_⟩
    have : M4.1 77 8 = M.1 11 8 := by
      rw [o4 77 8 (by omega), stI_rd, if_neg (by omega), e2, stI_rd, if_neg (by omega)]
      exact c1 10 8 (by simp [sIn])
    rw [this]; exact flag
theorem p_restore {M : Mm} (h : R M) : Ok2 fX10_restore fX11_restore M := by
  obtain ⟨⟨k1, k2⟩, k3⟩ := h.2.2.1
  rcases k2 with hk | hk
  · exact .no h _ (by unfold fX10_restore; rw [k1, hk, i00]) (by unfold fX11_restore; rw [hk, i00])
  have hS := k3 hk
  have hE := h.2.2.2.2.2
  refine Ok2.ch2 h (kx := fun M3 => b1 (fX6_copyFrom 1 67 M3) fun M5 => some (M5.1 2 0, M5)) (km := fun M3 => b1 (itr (fX11_restore_L16) 1000 (0, M3)) fun M11 => some (M11.1 96 1, M11)) (by unfold fX10_restore; rw [k1, hk, i10]) (fun M1 e => by unfold fX11_restore; rw [e 95 4 (by omega), hk, i10]) (fun M1 lo => ?_)
  obtain ⟨M2, f2, c2, o2⟩ := cp6 (c := 1) (o := 67) M1 (by omega) (by rw [lo _ _ (by omega)]; exact hE)
  refine ⟨(M2.1 2 0, M2), by rw [f2, b1_s], fun c j hc _ => o2 c j (by omega), fun M3 e3 l3 => ?_⟩
  obtain ⟨M4, f4, c4, o4⟩ := restoreM M3
  have hS4 : SR (blk M4 1) (M4.1 96) := hS.cong (fun k j hk => by
    have : k < 13 := by unfold sIn at hk; omega
    show M4.1 (1 + k) j = M.1 (67 + k) j
    rw [o4 _ _ (by omega), l3 _ _ (by omega)]
    show M2.1 (1 + k) j = _
    rw [c2 k j hk, lo _ _ (by omega)]) (fun j hj => by rw [c4 j hj, e3 98 j (by omega)])
  refine ⟨(M4.1 96 1, M4), by rw [f4, b1_s], fun c j hc _ => o4 c j hc, hS4, ?_⟩
  show M2.1 2 0 = M4.1 96 1
  obtain ⟨n, t, d, e, k, hn, -⟩ := hS4
  have a3 : M4.1 2 0 = nI t := hn.2.2.1.1
  have a4 : M4.1 96 1 = nI t := hn.2.2.1.2
  rw [a4, ← a3, o4 2 0 (by omega), l3 2 0 (by omega)]
theorem p_undo {M : Mm} (h : R M) : Ok2 fX10_undo fX11_undo M := by
  obtain ⟨h1, ⟨g, g1, g2, g3, g4⟩, h3, h4, h5⟩ := id h
  rcases Nat.eq_zero_or_pos g with rfl | hg
  · exact .no h _ (by unfold fX10_undo; rw [g2]; rfl) (by unfold fX11_undo; rw [g3]; rfl)
  obtain ⟨M1, f1, a1, o1⟩ := cp6 (c := 1) (o := 15) M (by omega) (h5.1 0 (by omega))
  obtain ⟨M2, f2, a2, o2⟩ := cp6 (c := 15) (o := 28) M1 (by omega) (by rw [o1 _ _ (by omega)]; exact h5.1 1 (by omega))
  obtain ⟨M3, f3, a3, o3⟩ := cp6 (c := 28) (o := 41) M2 (by omega) (by rw [o2 _ _ (by omega), o1 _ _ (by omega)]; exact h5.1 2 (by omega))
  obtain ⟨M4, f4, a4, o4⟩ := cp6 (c := 41) (o := 54) M3 (by omega) (by rw [o3 _ _ (by omega), o2 _ _ (by omega), o1 _ _ (by omega)]; exact h5.1 3 (by omega))
  have hi4 : ∀ c j, (c = 0 ∨ c = 14 ∨ 54 ≤ c) → M4.1 c j = M.1 c j := fun c j q => by rw [o4 _ _ (by omega), o3 _ _ (by omega), o2 _ _ (by omega), o1 _ _ (by omega)]
  have b0 : ∀ k j, sIn k j → M4.1 (1 + k) j = M.1 (15 + k) j := fun k j hk => by
    have : k < 13 := by unfold sIn at hk; omega
    rw [o4 _ _ (by omega), o3 _ _ (by omega), o2 _ _ (by omega), a1 k j hk]
  have b1' : ∀ i, i < 3 → ∀ k j, sIn k j → M4.1 (15 + 13 * i + k) j = M.1 (15 + 13 * (i + 1) + k) j := fun i hi k j hk => by
    have : k < 13 := by unfold sIn at hk; omega
    rcases (show i = 0 ∨ i = 1 ∨ i = 2 by omega) with rfl | rfl | rfl
    · show M4.1 (15 + k) j = M.1 (28 + k) j
      rw [o4 _ _ (by omega), o3 _ _ (by omega), a2 k j hk, o1 _ _ (by omega)]
    · show M4.1 (28 + k) j = M.1 (41 + k) j
      rw [o4 _ _ (by omega), a3 k j hk, o2 _ _ (by omega), o1 _ _ (by omega)]
    · show M4.1 (41 + k) j = M.1 (54 + k) j
      rw [a4 k j hk, o3 _ _ (by omega), o2 _ _ (by omega), o1 _ _ (by omega)]
  obtain ⟨M5, e5⟩ : ∃ M5, M5 = stI M4 14 0 (nI (g - 1)) := ⟨_, rfl⟩
  have r5 : ∀ c j, ¬ (c = 14 ∧ j = 0) → M5.1 c j = M4.1 c j := fun c j q => by rw [e5, stI_rd, if_neg q]
  obtain ⟨M7, f7, a7, -, o7⟩ := copy_loop (body := fX11_undo_L22) (M := stI M5 95 3 (nI (g - 1))) (s := 97) (d := 96) (so := 111 * (g - 1)) (dof := 0) (n := 111) (by omega) (Or.inl (by omega)) (fun i M' hi q1 q2 => by
    unfold fX11_undo_L22 u2 bd
    show (if 111 ≤ nI i then _ else _) = _
    rw [if_neg (show ¬ 111 ≤ nI i from ngen (t := 111) (by omega) (by omega) hi), q1 95 3 (by omega), stI_rd M5, if_pos ⟨rfl, rfl⟩, show nI (g - 1) * 111 + nI i = nI (111 * (g - 1) + i) by rw [show (111 : Int32) = nI 111 from rfl, pk_mul, nI_add, Nat.mul_comm], gd_t (inbn (by omega) (by omega)), gd_t (inbn (by omega) (by omega)), ixn (by omega), ixn (by omega), nI_1, Nat.zero_add]) (fun M' q1 q2 => by
    unfold fX11_undo_L22 u2
    exact if_pos (show (111 : Int32) ≤ nI 111 by decide))
  have r7 : ∀ c j, c ≠ 96 → ¬ (c = 95 ∧ j = 3) → M7.1 c j = M5.1 c j := fun c j q1 q2 => by rw [o7 c j q1, stI_rd, if_neg q2]
  have gne : ∀ x, x = nI g → ¬ x = 0 := fun x e q => by rw [e] at q; have := (neq (a := g) (b := 0) (by omega) (by omega)).mp q; omega
  have gs : nI g - 1 = nI (g - 1) := pk_sub (b := 1) hg
  have m96 : ∀ j, j < 111 → M7.1 96 j = M.1 97 (111 * (g - 1) + j) := fun j hj => by
    have := a7 j hj
    rw [Nat.zero_add, stI_rd, if_neg (by omega), r5 _ _ (by omega), hi4 _ _ (by omega)] at this
    exact this
  refine ⟨nI (g - 1), M5, M7, ?_, ?_, ?_, ?_, ?_, ?_, ?_⟩
  · unfold fX10_undo fX2_giveBack
    rw [if_neg (gne _ g2), f1, b1_s, f2, b1_s, f3, b1_s, f4, b1_s, hi4 14 0 (by omega), g2, gs]
    show some ((stI M4 14 0 (nI (g - 1))).1 14 0, stI M4 14 0 (nI (g - 1))) = _
    rw [← e5, e5, stI_rd, if_pos ⟨rfl, rfl⟩]
  · unfold fX11_undo
    have e : M5.1 95 3 = nI g := by rw [r5 _ _ (by omega), hi4 _ _ (by omega), g3]
    rw [if_neg (gne _ e), e, gs]
    show b1 (itr (fX11_undo_L22) 1000 (0, stI M5 95 3 (nI (g - 1)))) _ = _
    rw [f7, b1_s, o7 95 3 (by omega), stI_rd, if_pos ⟨rfl, rfl⟩]
  · refine (g4 0 hg).cong (fun k j hk => ?_) (fun j hj => ?_)
    · have : k < 13 := by unfold sIn at hk; omega
      show M7.1 (1 + k) j = M.1 (15 + k) j
      rw [r7 _ _ (by omega) (by omega), r5 _ _ (by omega), b0 k j hk]
    · show _ = M.1 97 (111 * (g - 1 - 0) + j)
      rw [m96 j hj, Nat.sub_zero]
  · refine ⟨g - 1, by omega, ?_, ?_, fun i hi => (g4 (i + 1) (by omega)).cong (fun k j hk => ?_) (fun j hj => ?_)⟩
    · rw [r7 _ _ (by omega) (by omega), e5, stI_rd, if_pos ⟨rfl, rfl⟩]
    · rw [o7 95 3 (by omega), stI_rd, if_pos ⟨rfl, rfl⟩]
    · have : k < 13 := by unfold sIn at hk; omega
      show M7.1 (15 + 13 * i + k) j = M.1 (15 + 13 * (i + 1) + k) j
      rw [r7 _ _ (by omega) (by omega), r5 _ _ (by omega), b1' i (by omega) k j hk]
    · show M7.1 97 _ = M.1 97 _
      rw [r7 _ _ (by omega) (by omega), r5 _ _ (by omega), hi4 _ _ (by omega), show g - 1 - 1 - i = g - 1 - (i + 1) by omega]
  · have a1 : M7.1 0 3 = M.1 0 3 := by rw [r7 _ _ (by omega) (by omega), r5 _ _ (by omega), hi4 _ _ (by omega)]
    have a2' : M7.1 95 4 = M.1 95 4 := by rw [r7 _ _ (by omega) (by omega), r5 _ _ (by omega), hi4 _ _ (by omega)]
    obtain ⟨⟨q1, q2⟩, q3⟩ := h3
    refine ⟨⟨a1.trans (q1.trans a2'.symm), by rw [a2']; exact q2⟩, fun hq => (q3 (by rw [← a2']; exact hq)).cong (fun k j hk => ?_) (fun j _ => ?_)⟩
    · have : k < 13 := by unfold sIn at hk; omega
      show M7.1 (67 + k) j = M.1 (67 + k) j
      rw [r7 _ _ (by omega) (by omega), r5 _ _ (by omega), hi4 _ _ (by omega)]
    · rw [r7 _ _ (by omega) (by omega), r5 _ _ (by omega), hi4 _ _ (by omega)]
  · obtain ⟨l, l1, l2, l3, l4⟩ := h4
    have O : ∀ c j, 80 ≤ c → c ≠ 96 → ¬ (c = 95 ∧ j = 3) → M7.1 c j = M.1 c j := fun c j q1 q2 q3 => by rw [r7 _ _ q2 q3, r5 _ _ (by omega), hi4 _ _ (by omega)]
    refine ⟨l, l1, (O 80 0 (by omega) (by omega) (by omega)).trans l2, (O 95 6 (by omega) (by omega) (by omega)).trans l3, fun i hi => ?_⟩
    rw [O 81 i (by omega) (by omega) (by omega), O 99 i (by omega) (by omega) (by omega)]
    exact l4 i hi
  · refine ⟨fun i hi => ?_, ?_⟩
    · rw [r7 _ _ (by omega) (by omega), r5 _ _ (by omega)]
      rcases Nat.lt_or_ge i 3 with q | q
      · have := b1' i q 10 8 (by simp [sIn])
        rw [show 15 + 13 * i + 10 = 25 + 13 * i by omega, show 15 + 13 * (i + 1) + 10 = 25 + 13 * (i + 1) by omega] at this
        rw [this]; exact h5.1 (i + 1) (by omega)
      · obtain rfl : i = 3 := by omega
        rw [hi4 _ _ (by omega)]; exact h5.1 3 (by omega)
    · rw [r7 _ _ (by omega) (by omega), r5 _ _ (by omega), hi4 _ _ (by omega)]; exact h5.2
