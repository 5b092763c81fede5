/-! ===== fault, read, as calls ===== -/
theorem FA.off {M A : Mm} (f : FA M A) : Off tmpP M A := fun c j h => f c j (fun q => h (by unfold tmpP; omega))
theorem FB.off {M B : Mm} (f : FB M B) : Off tmpP M B := fun c j h => f c j (fun q => h (by unfold tmpP; omega))
/-- both sides read the text, the one behind the other -/
theorem bothT {M : Mm} (h : R M) {n : Nat} (h1 : M.1 1 0 = nI n) (h2 : M.1 96 0 = nI n) (hn : 1 ≤ n ∧ n ≤ 3) : ∃ A, fX8_isFunction M (M.1 1 0) = some (if A.1 80 4 = 0 then 1 else 0, A) ∧ FA M A ∧ ∀ M3 : Mm, (∀ c j, c = 95 ∧ j = 6 ∨ c = 96 ∨ c = 99 → M3.1 c j = M.1 c j) → ∃ B, fX11_readText M3 = some B ∧ FB M3 B ∧ FinT A B := by
  obtain ⟨l, l1, l2, l3, l4⟩ := h.2.2.2.1
  have T : ∀ M3 : Mm, (∀ c j, c = 95 ∧ j = 6 ∨ c = 96 ∨ c = 99 → M3.1 c j = M.1 c j) → Tx l n (fun i => M.1 99 i) M M3 := fun M3 e => ⟨⟨l1, hn.1, hn.2⟩, ⟨l2, fun i hi => (l4 i hi).1⟩, (e 95 6 (by omega)).trans l3, (e 96 0 (by omega)).trans h2, fun i hi => e 99 i (by omega)⟩
  obtain ⟨A, -, e, -, fa, -, -⟩ := parseX (T M (fun _ _ _ => rfl))
  refine ⟨A, by rw [h1]; exact e, fa, fun M3 e3 => ?_⟩
  obtain ⟨A2, B, e2, eb, -, fb, fin⟩ := parseX (T M3 e3)
  obtain ⟨-, rfl⟩ := Prod.mk.inj (Option.some.inj (e.symm.trans e2))
  exact ⟨B, eb, fb, fin⟩
theorem p_fault {M : Mm} (h : R M) (w : Int32) : Ok2 (fun M => fX10_fault M w) (fun M => fX11_fault M w) M := by
  rcases in_n w 1 (by omega) with q | ⟨v, hv, rfl, q⟩
  · exact .no h _ (by show fX10_fault M _ = _; unfold fX10_fault; rw [within_in, show (1 : Int32) = nI 1 from rfl, q, b1_s, i00]) (by show fX11_fault M _ = _; unfold fX11_fault; rw [show (1 : Int32) = nI 1 from rfl, q, b1_s, i00])
  obtain ⟨n, t, d, e, k, hn, -⟩ := id h.1
  obtain ⟨A, e1, fa, both⟩ := bothT h hn.2.1.1 hn.2.1.2 ⟨hn.1.1, hn.1.2.1⟩
  obtain ⟨B, eb, fb, f1, f2, f3⟩ := both A (fun c j hc => fa c j (by omega))
  have hR : R B := (h.off fa.off).off fb.off
  have ex : ∀ r, (b2 (fX8_isFunction M (M.1 1 0)) fun x5 M6 => (if x5 = 0 then (if nI v = 0 then some (M6.1 80 3, M6) else some (M6.1 80 4, M6)) else some ((-1000004), M6))) = r → fX10_fault M (nI v) = r := by
    rintro _ rfl
    unfold fX10_fault
    rw [within_in, show (1 : Int32) = nI 1 from rfl, q, b1_s, i10]
  have em : ∀ r, (b1 (fX11_readText A) fun M5 => (if (M5.1 95 14) = 0 then some ((-1000004), M5) else (if nI v = 0 then some (M5.1 95 13, M5) else some (M5.1 95 14, M5)))) = r → fX11_fault A (nI v) = r := by
    rintro _ rfl
    unfold fX11_fault
    rw [show (1 : Int32) = nI 1 from rfl, q, b1_s, i10]
  by_cases hz : A.1 80 4 = 0
  · refine ⟨-1000004, A, B, ex _ ?_, em _ ?_, hR⟩
    · rw [e1, b2_s, if_pos hz, i10]
    · rw [eb, b1_s, ← f1, if_pos hz]
  · have g := f2 hz
    refine ⟨if nI v = 0 then A.1 80 3 else A.1 80 4, A, B, ex _ ?_, em _ ?_, hR⟩
    · rw [e1, b2_s, if_neg hz, i00]
      by_cases h0 : nI v = 0
      · rw [if_pos h0, if_pos h0]
      · rw [if_neg h0, if_neg h0]
    · rw [eb, b1_s, ← f1, if_neg hz, ← g]
      by_cases h0 : nI v = 0
      · rw [if_pos h0, if_pos h0]
      · rw [if_neg h0, if_neg h0]
theorem readM {M : Mm} {k : Nat} (hk : k ≤ 10) (h11 : M.1 95 11 = nI k) : ∃ M', itr (fX11_read_L30) 1000 (0, M) = some M' ∧ (∀ i, i < k → ∀ v, v < 4 → M'.1 96 (21 + 4 * i + v) = M.1 102 (4 * i + v)) ∧ (∀ j, j < 21 ∨ 61 ≤ j → M'.1 96 j = M.1 96 j) ∧ ∀ c j, c ≠ 96 → M'.1 c j = M.1 c j := by
  refine itr_0 (body := fX11_read_L30) (fun i q => q.1 = nI i ∧ (∀ i', i' < i → ∀ v, v < 4 → q.2.1 96 (21 + 4 * i' + v) = M.1 102 (4 * i' + v)) ∧ (∀ j, j < 21 ∨ 61 ≤ j → q.2.1 96 j = M.1 96 j) ∧ ∀ c j, c ≠ 96 → q.2.1 c j = M.1 c j) _ k (by omega) ⟨rfl, fun i hi => absurd hi (by omega), fun _ _ => rfl, fun _ _ _ => rfl⟩ ?_
  rintro i ⟨x, M1⟩ hi ⟨rfl, q1, q2, q3⟩
  have e11 : M1.1 95 11 = nI k := (q3 95 11 (by omega)).trans h11
  rcases Nat.lt_or_ge i k with hl | hl
  · left
    have e3 : ∀ j, M1.1 102 j = M.1 102 j := fun j => q3 102 j (by omega)
    obtain ⟨M2, f, r⟩ := putT (M := M1) (t := i) (by omega) (M.1 102 (4 * i)) (M.1 102 (4 * i + 1)) (M.1 102 (4 * i + 2)) (M.1 102 (4 * i + 3))
    refine ⟨(nI (i + 1), M2), ?_, by omega, rfl, fun i' hi' v hv => ?_, fun j hj => ?_, fun c j hc => ?_⟩
    · unfold fX11_read_L30 u2
      dsimp only
      rw [e11, if_neg (ngen (by omega) (by omega) hl), n4i, nI_1, show nI (4 * i) + 2 = nI (4 * i + 2) from nI_add _ 2, show nI (4 * i) + 3 = nI (4 * i + 3) from nI_add _ 3, gd_t (inbn (by omega) (by omega)), gd_t (inbn (by omega) (by omega)), gd_t (inbn (by omega) (by omega)), gd_t (inbn (by omega) (by omega)), ixn (by omega), ixn (by omega), ixn (by omega), ixn (by omega), e3, e3, e3, e3, f, b1_s, bd_s, nI_1]
    · show M2.1 96 _ = _
      rcases Nat.lt_or_ge i' i with hl2 | hl2
      · rw [r, if_neg (by omega), if_neg (by omega), if_neg (by omega), if_neg (by omega)]; exact q1 i' hl2 v hv
      · obtain rfl : i' = i := by omega
        rcases (show v = 0 ∨ v = 1 ∨ v = 2 ∨ v = 3 by omega) with rfl | rfl | rfl | rfl
        · rw [r, if_neg (by omega), if_neg (by omega), if_neg (by omega), if_pos (by omega)]; rfl
        · rw [r, if_neg (by omega), if_neg (by omega), if_pos (by omega)]
        · rw [r, if_neg (by omega), if_pos (by omega)]
        · rw [r, if_pos (by omega)]
    · show M2.1 96 j = _
      rw [r, if_neg (by omega), if_neg (by omega), if_neg (by omega), if_neg (by omega)]; exact q2 j hj
    · show M2.1 c j = _
      rw [r, if_neg (by omega), if_neg (by omega), if_neg (by omega), if_neg (by omega)]; exact q3 c j hc
  · right
    obtain rfl : i = k := by omega
    refine ⟨M1, ?_, q1, q2, q3⟩
    unfold fX11_read_L30 u2
    dsimp only
    rw [e11, if_pos (gen (by omega) (by omega) (by omega))]
theorem p_read {M : Mm} (h : R M) : Ok2 fX10_read fX11_read M := by
  obtain ⟨n, t, d, e, k, hn, hsc, hb', ht, hd, hl⟩ := id h.1
  obtain ⟨A, e1, fa, both⟩ := bothT h hn.2.1.1 hn.2.1.2 ⟨hn.1.1, hn.1.2.1⟩
  have hA : R A := h.off fa.off
  by_cases hz : A.1 80 4 = 0
  case neg =>
    obtain ⟨B, eb, fb, f1, f2, f3⟩ := both A (fun c j hc => fa c j (by omega))
    refine ⟨-1000002, A, B, ?_, ?_, hA.off fb.off⟩
    · unfold fX10_read
      rw [e1, b2_s, if_neg hz, i00]
    · unfold fX11_read
      rw [eb, b1_s, ← f1, if_neg hz]
  obtain ⟨g, g4, g1, g2⟩ := hist_g hA
  have sA : ∀ c j, c < 14 → A.1 c j = M.1 c j := fun c j hc => fa c j (by omega)
  have flag : A.1 11 8 = 0 ∨ A.1 11 8 = 1 := by
    have s7 : M.1 11 8 = M.1 96 11 := hsc.1.2.2.2.2.2.2
    rw [sA _ _ (by omega), s7]; exact hsc.2.2.2.1
  obtain ⟨M1, fp, pa, pb, pc, -, po⟩ := pushX hA.2.2.2.2 flag g1 g4
  obtain ⟨M2, fc, c0, c1, c2, co⟩ := cp7 (c := 2) (o := 82) M1 (by omega)
  have px : PX g A M2 := by
    have p1 : PX g A M1 := ⟨pa, pb, pc, fun c' j h1 _ => po c' j (by omega)⟩
    exact p1.off (fun c j h1 _ => co c j (by omega))
  have oM2 : ∀ c j, 67 ≤ c → M2.1 c j = A.1 c j := fun c j hc => by rw [co c j (by omega), po c j (by omega)]
  obtain ⟨B, eb, fb, f1, f2, f3⟩ := both M2 (fun c j hc => by rw [oM2 c j (by omega)]; exact fa c j (by omega))
  obtain ⟨m, m10, k1, k2, tt⟩ := f3 hz
  have pB : PX g A B := px.off (fun c j _ h2 => fb.off c j h2)
  have e95 : B.1 95 3 = nI g := by rw [fb 95 3 (by omega), oM2 _ _ (by omega)]; exact g2
  obtain ⟨M3, fr, q1, a1, a2, a3⟩ := chM e95 g4
  obtain ⟨M4, eM4⟩ : ∃ M4, M4 = stI M3 96 1 (M3.1 95 11) := ⟨_, rfl⟩
  have r4 : ∀ c j, ¬ (c = 96 ∧ j = 1) → M4.1 c j = M3.1 c j := fun c j hc => by rw [eM4, stI_rd, if_neg hc]
  have b11 : M3.1 95 11 = nI m := (a3 11 (by omega)).trans k2
  obtain ⟨M5, f5, t5, z5, o5⟩ := readM (M := M4) m10 ((r4 _ _ (by omega)).trans b11)
  have cB : ∀ c j, c < 14 → M5.1 c j = M2.1 c j := fun c j hc => by rw [o5 c j (by omega), r4 c j (by omega), a2 c j (by omega), fb c j (by omega)]
  have sM : ∀ c j, c < 14 → ¬ (2 ≤ c ∧ c < 5) → M5.1 c j = M.1 c j := fun c j h1 h2 => by rw [cB c j h1, co c j (by omega), po c j (by omega), sA c j h1]
  have zM : ∀ j, j ≠ 1 → (j < 21 ∨ 61 ≤ j) → M5.1 96 j = M.1 96 j := fun j h1 h2 => by
    rw [z5 j h2, r4 _ _ (by omega), a1 j, fb 96 j (by omega), oM2 96 j (by omega)]; exact fa 96 j (by omega)
  have x20 : M2.1 2 0 = nI m := by rw [c0, po _ _ (by omega)]; exact k1
  refine ⟨nI m, M2, M5, ?_, ?_, hA.change g1 g4 pB ((q1.off (fun c j h1 _ => r4 c j (by omega))).off (fun c j h1 _ => o5 c j h1)) ?_⟩
  · unfold fX10_read
    rw [e1, b2_s, if_pos hz, i10, fp, b1_s, fc, b1_s, x20]
  · unfold fX11_read
    rw [eb, b1_s, ← f1, if_pos hz, fr, b1_s, bd_s, ← eM4, f5, b1_s, o5 95 11 (by omega), r4 _ _ (by omega), b11]
  have T5 : ∀ i, i < m → ∀ v, v < 4 → M5.1 96 (21 + 4 * i + v) = B.1 102 (4 * i + v) := fun i hi v hv => by
    rw [t5 i hi v hv, r4 _ _ (by omega), a2 _ _ (by omega)]
  obtain ⟨⟨u1, u2', u3, u4, u5, u6⟩, ⟨v1, v2⟩, ⟨v3, v4⟩, ⟨v5, v6⟩, ⟨v7, v8⟩, ⟨v9, v10⟩⟩ := hn
  obtain ⟨⟨w1, w2, w3, w4, w5, w6, w7⟩, w8, w9, w10, w11⟩ := hsc
  refine ⟨n, m, d, e, k, ⟨⟨u1, u2', m10, u4, u5, u6⟩, ⟨(sM 1 0 (by omega) (by omega)).trans v1, (zM 0 (by omega) (by omega)).trans v2⟩, ⟨(cB 2 0 (by omega)).trans x20, ?_⟩, ⟨(sM 8 0 (by omega) (by omega)).trans v5, (zM 2 (by omega) (by omega)).trans v6⟩, ⟨(sM 11 1 (by omega) (by omega)).trans v7, (zM 3 (by omega) (by omega)).trans v8⟩, ⟨(sM 11 6 (by omega) (by omega)).trans v9, (zM 10 (by omega) (by omega)).trans v10⟩⟩, ⟨⟨?_, ?_, ?_, ?_, ?_, ?_, ?_⟩, ?_, ?_, ?_, ?_⟩, hb'.cong (fun v _ => ⟨sM 6 v (by omega) (by omega), sM 7 v (by omega) (by omega), sM 12 v (by omega) (by omega)⟩) (fun j _ _ => zM j (by omega) (by omega)), ?_, hd.cong u4 (fun i _ => sM 10 i (by omega) (by omega)) (fun i _ => sM 9 i (by omega) (by omega)) (fun j _ _ => zM j (by omega) (by omega)), hl.cong u6 (fun i _ => sM 13 i (by omega) (by omega)) (fun j _ _ => zM j (by omega) (by omega))⟩
  · rw [z5 1 (by omega), eM4, stI_rd, if_pos ⟨rfl, rfl⟩, b11]
  · exact (sM 1 1 (by omega) (by omega)).trans (w1.trans (zM 4 (by omega) (by omega)).symm)
  · exact (sM 1 2 (by omega) (by omega)).trans (w2.trans (zM 5 (by omega) (by omega)).symm)
  · exact (sM 11 2 (by omega) (by omega)).trans (w3.trans (zM 6 (by omega) (by omega)).symm)
  · exact (sM 11 3 (by omega) (by omega)).trans (w4.trans (zM 7 (by omega) (by omega)).symm)
  · exact (sM 11 4 (by omega) (by omega)).trans (w5.trans (zM 8 (by omega) (by omega)).symm)
  · exact (sM 11 5 (by omega) (by omega)).trans (w6.trans (zM 9 (by omega) (by omega)).symm)
  · exact (sM 11 8 (by omega) (by omega)).trans (w7.trans (zM 11 (by omega) (by omega)).symm)
  · rw [zM 4 (by omega) (by omega)]; exact w8
  · rw [zM 5 (by omega) (by omega)]; exact w9
  · rw [zM 11 (by omega) (by omega)]; exact w10
  · rw [zM 9 (by omega) (by omega)]; exact w11
  · intro i hi
    have q := tt i hi
    have t0 : M5.1 96 (21 + 4 * i) = B.1 102 (4 * i) := T5 i hi 0 (by omega)
    have t1 := T5 i hi 1 (by omega)
    have t2 := T5 i hi 2 (by omega)
    have t3 := T5 i hi 3 (by omega)
    have y0 : M5.1 3 i = A.1 83 i := by rw [cB _ _ (by omega), c1 i (by omega), po _ _ (by omega)]
    have y1 : ∀ j, j < 30 → M5.1 4 j = A.1 84 j := fun j hj => by rw [cB _ _ (by omega), c2 j hj, po _ _ (by omega)]
    obtain ⟨⟨b0, b1', b2', b3⟩, hk⟩ := q
    refine ⟨y0.trans (b0.trans t0.symm), ⟨(y1 _ (by omega)).trans (b1'.trans t1.symm), (y1 _ (by omega)).trans (b2'.trans t2.symm), (y1 _ (by omega)).trans (b3.trans t3.symm)⟩, ?_⟩
    unfold tOK
    unfold tkO at hk
    rw [t0, t1, t2, t3]
    exact hk
