/-! ===== order, bound, texts, snapshot, undo ===== -/
theorem SRb.cong {s s' : Nat → Nat → Int32} {z z' : Nat → Int32} (h : SRb s z) (hs : ∀ v, v < 3 → s' 5 v = s 5 v ∧ s' 6 v = s 6 v ∧ s' 11 v = s 11 v) (hz : ∀ j, 12 ≤ j → j < 21 → z' j = z j) : SRb s' z' := fun v hv => by
  obtain ⟨a, b, c⟩ := hs v hv
  rw [a, b, c, hz (12 + v) (by omega) (by omega), hz (15 + v) (by omega) (by omega), hz (18 + v) (by omega) (by omega)]
  exact h v hv
theorem SRt.cong {t : Nat} {s s' : Nat → Nat → Int32} {z z' : Nat → Int32} (h : SRt t s z) (ht : t ≤ 10) (hs : ∀ i, i < 10 → s' 2 i = s 2 i) (hs2 : ∀ i, i < 30 → s' 3 i = s 3 i) (hz : ∀ j, 21 ≤ j → j < 61 → z' j = z j) : SRt t s' z' := fun i hi => by
  have q := h i hi
  unfold tOK at q ⊢
  rw [hs i (by omega), hs2 (3 * i) (by omega), hs2 (3 * i + 1) (by omega), hs2 (3 * i + 2) (by omega), hz (21 + 4 * i) (by omega) (by omega), hz (21 + 4 * i + 1) (by omega) (by omega), hz (21 + 4 * i + 2) (by omega) (by omega), hz (21 + 4 * i + 3) (by omega) (by omega)]
  exact q
theorem dOK.cong {n i : Nat} {z z' : Nat → Int32} (h : dOK n z i) (hz : ∀ j, 61 + 4 * i ≤ j → j < 64 + 4 * i → z' j = z j) : dOK n z' i := by
  unfold dOK at h ⊢
  rw [hz (61 + 4 * i) (by omega) (by omega), hz (61 + 4 * i + 1) (by omega) (by omega), hz (61 + 4 * i + 2) (by omega) (by omega)]
  refine ⟨fun v hv => ?_, h.2⟩
  rw [hz (61 + 4 * i + v) (by omega) (by omega)]
  exact h.1 v hv
theorem SRd.cong {n d : Nat} {s s' : Nat → Nat → Int32} {z z' : Nat → Int32} (h : SRd n d s z) (hd : d ≤ 8) (hs : ∀ i, i < 8 → s' 9 i = s 9 i) (hs2 : ∀ i, i < 24 → s' 8 i = s 8 i) (hz : ∀ j, 61 ≤ j → j < 93 → z' j = z j) : SRd n d s' z' := fun i hi => by
  have q := h i hi
  rw [hs i (by omega), hs2 (3 * i) (by omega), hs2 (3 * i + 1) (by omega), hs2 (3 * i + 2) (by omega), hz (61 + 4 * i) (by omega) (by omega), hz (61 + 4 * i + 1) (by omega) (by omega), hz (61 + 4 * i + 2) (by omega) (by omega), hz (61 + 4 * i + 3) (by omega) (by omega)]
  exact ⟨q.1, q.2.1, q.2.2.cong (fun j h1 h2 => hz j (by omega) (by omega))⟩
theorem SRl.cong {k : Nat} {s s' : Nat → Nat → Int32} {z z' : Nat → Int32} (h : SRl k s z) (hk : k ≤ 6) (hs : ∀ i, i < 18 → s' 12 i = s 12 i) (hz : ∀ j, 93 ≤ j → j < 111 → z' j = z j) : SRl k s' z' := fun i hi => by
  rw [hs i (by omega), hz (93 + i) (by omega) (by omega)]; exact h i hi
/-- a call answers alike on both sides, and the sides stay in relation -/
def Ok2 (fx fm : Mm → Option (Int32 × Mm)) (M : Mm) : Prop := ∃ r M1 M2, fx M = some (r, M1) ∧ fm M1 = some (r, M2) ∧ R M2
theorem Ok2.no {fx fm : Mm → Option (Int32 × Mm)} {M : Mm} (h : R M) (r : Int32) (e1 : fx M = some (r, M)) (e2 : fm M = some (r, M)) : Ok2 fx fm M := ⟨r, M, M, e1, e2, h⟩
theorem Ok2.ch {fx fm : Mm → Option (Int32 × Mm)} {M : Mm} {kx km : Mm → Option (Int32 × Mm)} (h : R M) (e1 : fx M = b1 (fX2_push M) kx) (e2 : ∀ M1, (∀ j, M1.1 96 j = M.1 96 j) → fm M1 = b1 (fX11_record M1) km)
    (hx : ∀ M1, (∀ c j, c < 14 → M1.1 c j = M.1 c j) → ∃ r, kx M1 = some r ∧ (∀ c j, ¬ (1 ≤ c ∧ c < 14) → ¬ tmpP c j → r.2.1 c j = M1.1 c j) ∧
      ∀ M3, (∀ j, M3.1 96 j = M.1 96 j) → (∀ c j, c < 14 → M3.1 c j = r.2.1 c j) → ∃ r2, km M3 = some r2 ∧ (∀ c j, c ≠ 96 → ¬ tmpP c j → r2.2.1 c j = M3.1 c j) ∧ (SR (blk r2.2 1) (r2.2.1 96)) ∧ r.1 = r2.1) : Ok2 fx fm M := by
  obtain ⟨g, g4, g1, g2⟩ := hist_g h
  obtain ⟨M1, f1, p1, o1⟩ := chX h g1 g4
  obtain ⟨r, k1, o2, rest⟩ := hx M1 (fun c j hc => o1 c j hc)
  have p2 : PX g M r.2 := p1.off o2
  have e95 : r.2.1 95 3 = nI g := (p2.2.2.2 95 3 (by omega) (by unfold tmpP; omega)).trans g2
  have e96 : ∀ j, r.2.1 96 j = M.1 96 j := fun j => p2.2.2.2 96 j (by omega) (by unfold tmpP; omega)
  obtain ⟨M3, f3, q1, a1, a2, -⟩ := chM e95 g4
  obtain ⟨r2, k2, o3, hS, hQ⟩ := rest M3 (fun j => (a1 j).trans (e96 j)) (fun c j hc => a2 c j (by omega))
  refine ⟨r.1, r.2, r2.2, by rw [e1, f1]; exact k1, ?_, h.change g1 g4 p2 (q1.off o3) hS⟩
  rw [e2 r.2 e96, f3, hQ]; exact k2
theorem p_order {M : Mm} (h : R M) (w1 w2 : Int32) : Ok2 (fun M => fX10_order M w1 w2) (fun M => fX11_order M w1 w2) M := by
  rcases in_n w1 2 (by omega) with h1 | ⟨a, ha, rfl, h1⟩
  · exact .no h _ (by show fX10_order M w1 w2 = _; unfold fX10_order; rw [within_in, show (2 : Int32) = nI 2 from rfl, h1, b1_s, i00]) (by show fX11_order M w1 w2 = _; unfold fX11_order; rw [show (2 : Int32) = nI 2 from rfl, h1, b1_s, i00])
  rcases in_n w2 1 (by omega) with h2 | ⟨b, hb, rfl, h2⟩
  · exact .no h _ (by show fX10_order M _ w2 = _; unfold fX10_order; rw [within_in, show (2 : Int32) = nI 2 from rfl, h1, b1_s, i10, show (1 : Int32) = nI 1 from rfl, h2, b1_s, i00]) (by show fX11_order M _ w2 = _; unfold fX11_order; rw [show (2 : Int32) = nI 2 from rfl, h1, b1_s, i10, show (1 : Int32) = nI 1 from rfl, h2, b1_s, i00])
  refine Ok2.ch h (kx := fun M9 => bd (stI M9 1 1 (nI a)) fun M10 => bd (stI M10 1 2 (nI b)) fun M11 => some ((10 * (M.1 1 1)) + (M.1 1 2), M11)) (km := fun M8 => bd ((10 * (M8.1 96 4)) + (M8.1 96 5)) fun x9 => bd (stI M8 96 4 (nI a)) fun M10 => bd (stI M10 96 5 (nI b)) fun M11 => some (x9, M11)) ?_ (fun M1 _ => ?_) (fun M1 lo => ?_)
  · show fX10_order M _ _ = _; unfold fX10_order; rw [within_in, show (2 : Int32) = nI 2 from rfl, h1, b1_s, i10, show (1 : Int32) = nI 1 from rfl, h2, b1_s]; rfl
  · show fX11_order M1 _ _ = _; unfold fX11_order; rw [show (2 : Int32) = nI 2 from rfl, h1, b1_s, i10, show (1 : Int32) = nI 1 from rfl, h2, b1_s]; rfl
  refine bd_st fun M2 r2 _ => bd_st fun M3 r3 _ => ⟨_, rfl, fun c j hc _ => ?_, fun M4 e4 l4 => ?_⟩
  · show M3.1 c j = _
    rw [r3, if_neg (by omega), r2, if_neg (by omega)]
  refine bd_v fun x ex => bd_st fun M5 r5 _ => bd_st fun M6 r6 _ => ⟨_, rfl, fun c j hc _ => ?_, ?_, ?_⟩
  · show M6.1 c j = _
    rw [r6, if_neg (by omega), r5, if_neg (by omega)]
  · obtain ⟨n, t, d, e, k, hn, hsc, hb', ht, hd, hl⟩ := h.1
    have S : ∀ c j, c < 14 → ¬ (c = 1 ∧ (j = 1 ∨ j = 2)) → M6.1 c j = M.1 c j := fun c j hc h1 => by
      rw [r6, if_neg (by omega), r5, if_neg (by omega), l4 c j hc]
      show M3.1 c j = _
      rw [r3, if_neg (by omega), r2, if_neg (by omega), lo c j hc]
    have Z : ∀ j, j ≠ 4 → j ≠ 5 → M6.1 96 j = M.1 96 j := fun j h1 h2 => by rw [r6, if_neg (by omega), r5, if_neg (by omega), e4]
    have s1 : M6.1 1 1 = nI a := by
      rw [r6, if_neg (by omega), r5, if_neg (by omega), l4 1 1 (by omega)]
      show M3.1 1 1 = _
      rw [r3, if_neg (by omega), r2, if_pos (by omega)]
    have s2 : M6.1 1 2 = nI b := by
      rw [r6, if_neg (by omega), r5, if_neg (by omega), l4 1 2 (by omega)]
      show M3.1 1 2 = _
      rw [r3, if_pos (by omega)]
    have z4 : M6.1 96 4 = nI a := by rw [r6, if_neg (by omega), r5, if_pos (by omega)]
    have z5 : M6.1 96 5 = nI b := by rw [r6, if_pos (by omega)]
    obtain ⟨q1, ⟨c1, c2⟩, ⟨c3, c4⟩, ⟨c5, c6⟩, ⟨c7, c8⟩, ⟨c9, c10⟩⟩ := hn
    obtain ⟨⟨-, -, u3, u4, u5, u6, u7⟩, -, -, u8, u9⟩ := hsc
    refine ⟨n, t, d, e, k, ⟨q1, ⟨(S 1 0 (by omega) (by omega)).trans c1, (Z 0 (by omega) (by omega)).trans c2⟩, ⟨(S 2 0 (by omega) (by omega)).trans c3, (Z 1 (by omega) (by omega)).trans c4⟩, ⟨(S 8 0 (by omega) (by omega)).trans c5, (Z 2 (by omega) (by omega)).trans c6⟩, ⟨(S 11 1 (by omega) (by omega)).trans c7, (Z 3 (by omega) (by omega)).trans c8⟩, ⟨(S 11 6 (by omega) (by omega)).trans c9, (Z 10 (by omega) (by omega)).trans c10⟩⟩, ⟨⟨s1.trans z4.symm, s2.trans z5.symm, ?_, ?_, ?_, ?_, ?_⟩, ?_, ?_, ?_, ?_⟩, hb'.cong (fun v _ => ⟨S 6 v (by omega) (by omega), S 7 v (by omega) (by omega), S 12 v (by omega) (by omega)⟩) (fun j _ _ => Z j (by omega) (by omega)), ht.cong q1.2.2.1 (fun i _ => S 3 i (by omega) (by omega)) (fun i _ => S 4 i (by omega) (by omega)) (fun j _ _ => Z j (by omega) (by omega)), hd.cong q1.2.2.2.1 (fun i _ => S 10 i (by omega) (by omega)) (fun i _ => S 9 i (by omega) (by omega)) (fun j _ _ => Z j (by omega) (by omega)), hl.cong q1.2.2.2.2.2 (fun i _ => S 13 i (by omega) (by omega)) (fun j _ _ => Z j (by omega) (by omega))⟩
    · exact (S 11 2 (by omega) (by omega)).trans (u3.trans (Z 6 (by omega) (by omega)).symm)
    · exact (S 11 3 (by omega) (by omega)).trans (u4.trans (Z 7 (by omega) (by omega)).symm)
    · exact (S 11 4 (by omega) (by omega)).trans (u5.trans (Z 8 (by omega) (by omega)).symm)
    · exact (S 11 5 (by omega) (by omega)).trans (u6.trans (Z 9 (by omega) (by omega)).symm)
    · exact (S 11 8 (by omega) (by omega)).trans (u7.trans (Z 11 (by omega) (by omega)).symm)
    · show M6.1 96 4 = 0 ∨ M6.1 96 4 = 1 ∨ M6.1 96 4 = 2
      rw [z4]
      rcases (show a = 0 ∨ a = 1 ∨ a = 2 by omega) with rfl | rfl | rfl
      · exact Or.inl rfl
      · exact Or.inr (Or.inl rfl)
      · exact Or.inr (Or.inr rfl)
    · show M6.1 96 5 = 0 ∨ M6.1 96 5 = 1
      rw [z5]
      rcases (show b = 0 ∨ b = 1 by omega) with rfl | rfl
      · exact Or.inl rfl
      · exact Or.inr rfl
    · show M6.1 96 11 = 0 ∨ M6.1 96 11 = 1
      rw [Z 11 (by omega) (by omega)]; exact u8
    · show M6.1 96 9 = -1 ∨ ∃ l, l < d ∧ M6.1 96 9 = nI l
      rw [Z 9 (by omega) (by omega)]; exact u9
  · show _ = x
    rw [ex, e4, e4]
    obtain ⟨n, t, d, e, k, hn, hsc, -⟩ := h.1
    have a7 : M.1 1 1 = M.1 96 4 := hsc.1.1
    have a8 : M.1 1 2 = M.1 96 5 := hsc.1.2.1
    rw [a7, a8]
theorem p_clearText {M : Mm} (h : R M) : Ok2 fX10_clearText fX11_clearText M := by
  obtain ⟨h1, h2, h3, ⟨l, l1, l2, l3, l4⟩, h5⟩ := h
  refine ⟨M.1 80 0, stI M 80 0 0, stI (stI M 80 0 0) 95 6 0, rfl, ?_, ?_⟩
  · show some ((stI M 80 0 0).1 95 6, _) = _
    rw [stI_rd, if_neg (by omega), l2, l3]
  · have O : ∀ c j, ¬ (c = 80 ∧ j = 0) → ¬ (c = 95 ∧ j = 6) → (stI (stI M 80 0 0) 95 6 0).1 c j = M.1 c j := fun c j q1 q2 => by rw [stI_rd, if_neg q2, stI_rd, if_neg q1]
    refine ⟨h1.cong (fun k j hk => O _ _ (by unfold sIn at hk; omega) (by unfold sIn at hk; omega)) (fun j _ => O 96 j (by omega) (by omega)), ?_, ?_, ⟨0, by omega, ?_, ?_, fun i hi => absurd hi (by omega)⟩, ?_⟩
    · obtain ⟨g, g1, g2, g3, g4⟩ := h2
      exact ⟨g, g1, (O 14 0 (by omega) (by omega)).trans g2, (O 95 3 (by omega) (by omega)).trans g3, fun i hi => (g4 i hi).cong (fun k j hk => O _ _ (by unfold sIn at hk; omega) (by unfold sIn at hk; omega)) (fun j _ => O 97 _ (by omega) (by omega))⟩
    · obtain ⟨⟨q1, q2⟩, q3⟩ := h3
      have e1 := O 95 4 (by omega) (by omega)
      exact ⟨⟨(O 0 3 (by omega) (by omega)).trans (q1.trans e1.symm), by rw [e1]; exact q2⟩, fun hq => (q3 (by rw [← e1]; exact hq)).cong (fun k j hk => O _ _ (by unfold sIn at hk; omega) (by unfold sIn at hk; omega)) (fun j _ => O 98 _ (by omega) (by omega))⟩
    · rw [stI_rd, if_neg (by omega), stI_rd, if_pos (by omega)]; rfl
    · rw [stI_rd, if_pos (by omega)]; rfl
    · exact ⟨fun i hi => by rw [O _ _ (by omega) (by omega)]; exact h5.1 i hi, by rw [O _ _ (by omega) (by omega)]; exact h5.2⟩
