/-! ===== trialOf, stuck ===== -/
theorem R.cm {M : Mm} (h : R M) : ∃ n t d e k, (e ≤ 4 ∧ d ≤ 8 ∧ t ≤ 10) ∧ CX n t d M (M.1 96) ∧ MX t d M ∧ M.1 11 1 = nI (2 ^ e) ∧ M.1 96 3 = nI e ∧ SRb (blk M 1) (M.1 96) ∧ M.1 96 0 = nI n ∧ M.1 1 0 = nI n ∧ k ≤ 6 ∧ 1 ≤ n ∧ n ≤ 3 := by
  obtain ⟨n, t, d, e, k, hn, hsc, hb, ht, hd, hl⟩ := h.1
  obtain ⟨⟨l1, l2, l3, l4, l5, l6⟩, n1, n2, n3, n4, n5⟩ := hn
  exact ⟨n, t, d, e, k, ⟨l5, l4, l3⟩, ⟨⟨l3, l4⟩, n2.1, n3.1, hsc.1.1, hsc.1.2.2.2.2.2.1, hb, ht, hd⟩, ⟨⟨l3, l4⟩, n2.2, n3.2, fun i hi => (ht i hi).2.2⟩, n4.1, n4.2, hb, n1.2, n1.1, l6, l1, l2⟩
theorem p_trialOf {M : Mm} (h : R M) (w1 w2 : Int32) : Ok2 (fun M => fX10_trialOf M w1 w2) (fun M => fX11_trialOf M w1 w2) M := by
  obtain ⟨n, t, d, e, k, ⟨le, ld, lt⟩, hC, hM, a11, b3', hb, -⟩ := R.cm h
  rcases neg_or w1 with h1 | ⟨i, hi, rfl, h1⟩
  · exact .no h _ (by show fX10_trialOf M _ _ = _; unfold fX10_trialOf; rw [if_pos h1]) (by show fX11_trialOf M _ _ = _; unfold fX11_trialOf; rw [if_pos h1])
  rcases in_z w2 0 1 with q | q
  · exact .no h _ (by show fX10_trialOf M _ _ = _; unfold fX10_trialOf; rw [if_neg h1, within_in, q, b1_s, i00]) (by show fX11_trialOf M _ _ = _; unfold fX11_trialOf; rw [if_neg h1, q, b1_s, i00])
  obtain ⟨M1, f1, ⟨m, g, row, lst⟩, y, o⟩ := gatherX hC e
  have md : m ≤ d := lst.1
  have ez : M1.1 96 = M.1 96 := by funext j; exact o 96 j (by omega) (by omega)
  have hM1 : MX t d M1 := hM.cong ez
  obtain ⟨M2, g2, rm, o2⟩ := layM hM1 le (by rw [ez]; exact b3') (m := m) (g := g) (by rw [ez]; exact lst)
  have hR2 : R M2 := h.off (fun c j hc => by
    rw [o2 c j (by unfold tmpP at hc; omega) (by unfold tmpP at hc; omega)]
    exact o c j (by unfold tmpP at hc; omega) (by unfold tmpP at hc; omega))
  have ez2 : M2.1 96 = M.1 96 := by funext j; rw [o2 96 j (by omega) (by omega), ez]
  have hM2 : MX t d M2 := hM.cong ez2
  have px : fX10_trialOf M (nI i) w2 = (if nI i < nI m then (if w2 = 0 then gd (inb (nI i) 8) <| some (M1.1 87 (ix (nI i)), M1) else b1 (fX9_isBetter M1 (nI i)) fun x10 => b1 (fX10_oneIf x10) fun x12 => some (x12, M1)) else some ((-1000004), M1)) := by
    unfold fX10_trialOf
    rw [if_neg h1, within_in, q, b1_s, i10, a11, f1, b1_s, row.1]
  rcases Nat.lt_or_ge i m with hl | hl
  · have hg := (lst.2.2.1 i hl).1
    have r := row.2 i hl
    have vv := vlM hM2 (z := M.1 96) (fun j _ => by rw [ez2]) e (i := g i) (by omega)
    have hv : fX11_valueHere M2 = some (vs (M.1 96) false (M.1 96 18) (M.1 96 19) (M.1 96 20) t) := by
      have q : fX11_valueAt M2 (M2.1 96 18) (M2.1 96 19) (M2.1 96 20) 0 = _ := valM hM2.2.2.2 hM2.2.1 lt false (M2.1 96 18) (M2.1 96 19) (M2.1 96 20)
      unfold fX11_valueHere
      rw [q, b1_s, ez2]
    have pm : fX11_trialOf M1 (nI i) w2 = (if w2 = 0 then some (nI (g i), M2) else (if 0 ≤ lg_cmp (vlz (M.1 96) e t (g i)) (vs (M.1 96) false (M.1 96 18) (M.1 96 19) (M.1 96 20) t) then some (0, M2) else some (1, M2))) := by
      unfold fX11_trialOf
      rw [if_neg h1, q, b1_s, i10, g2, b1_s, rm.1, if_pos (ltn (by omega) (by omega) hl), gd_t (inbn (by omega) (by omega)), ixn (by omega), rm.2 i hl, ez2, b3', shl1 le, vv, b1_s, hv, b1_s, bd_s]
      by_cases c : 0 ≤ lg_cmp (vlz (M.1 96) e t (g i)) (vs (M.1 96) false (M.1 96 18) (M.1 96 19) (M.1 96 20) t)
      · rw [if_pos c, if_pos c]
        dsimp only
        rw [i00]
      · rw [if_neg c, if_neg c]
        dsimp only
        rw [i10]
    by_cases c2 : w2 = 0
    · refine ⟨nI (g i), M1, M2, ?_, ?_, hR2⟩
      · show fX10_trialOf M (nI i) w2 = _
        rw [px, if_pos (ltn (by omega) (by omega) hl), if_pos c2, gd_t (inbn (by omega) (by omega)), ixn (by omega), r.1]
      · show fX11_trialOf M1 (nI i) w2 = _
        rw [pm, if_pos c2]
    · have bt : fX9_isBetter M1 (nI i) = some (if 0 ≤ lg_cmp (vlz (M.1 96) e t (g i)) (vs (M.1 96) false (M.1 96 18) (M.1 96 19) (M.1 96 20) t) then 0 else 1) := by
        unfold fX9_isBetter
        rw [gd_t (inbn (by omega) (by omega)), ixn (by omega), r.2.2, y]
        by_cases c : 0 ≤ lg_cmp (vlz (M.1 96) e t (g i)) (vs (M.1 96) false (M.1 96 18) (M.1 96 19) (M.1 96 20) t)
        · rw [if_pos c, if_pos c]
        · rw [if_neg c, if_neg c]
      by_cases c : 0 ≤ lg_cmp (vlz (M.1 96) e t (g i)) (vs (M.1 96) false (M.1 96 18) (M.1 96 19) (M.1 96 20) t)
      · rw [if_pos c] at bt
        refine ⟨0, M1, M2, ?_, ?_, hR2⟩
        · show fX10_trialOf M (nI i) w2 = _
          rw [px, if_pos (ltn (by omega) (by omega) hl), if_neg c2, bt, b1_s, oneIf_z (Or.inl rfl), b1_s]
        · show fX11_trialOf M1 (nI i) w2 = _
          rw [pm, if_neg c2, if_pos c]
      · rw [if_neg c] at bt
        refine ⟨1, M1, M2, ?_, ?_, hR2⟩
        · show fX10_trialOf M (nI i) w2 = _
          rw [px, if_pos (ltn (by omega) (by omega) hl), if_neg c2, bt, b1_s, oneIf_z (Or.inr rfl), b1_s]
        · show fX11_trialOf M1 (nI i) w2 = _
          rw [pm, if_neg c2, if_neg c]
  · refine ⟨-1000004, M1, M2, ?_, ?_, hR2⟩
    · show fX10_trialOf M (nI i) w2 = _
      rw [px, if_neg (nltn (by omega) (by omega) hl)]
    · show fX11_trialOf M1 (nI i) w2 = _
      unfold fX11_trialOf
      rw [if_neg h1, q, b1_s, i10, g2, b1_s, rm.1, if_neg (nltn (by omega) (by omega) hl)]
/-- a query that passes over the class' places for trials -/
def Ok1 (fx : Mm → Option (Int32 × Mm)) (fm : Mm → Option Int32) (M : Mm) : Prop := ∃ r M1, fx M = some (r, M1) ∧ fm M1 = some r ∧ R M1
theorem p_stuck {M : Mm} (h : R M) (w1 : Int32) : Ok1 (fun M => fX10_stuck M w1) (fun M => fX11_stuck M w1) M := by
  obtain ⟨n, t, d, e, k, ⟨le, ld, lt⟩, hC, hM, a11, b3', hb, -⟩ := R.cm h
  rcases in_n w1 4 (by omega) with q | ⟨s, hs, rfl, q⟩
  · have q : fX11_in w1 0 4 = some 0 := q
    exact ⟨-1000001, M, by show fX10_stuck M _ = _; unfold fX10_stuck; rw [within_in, q, b1_s, i00], by show fX11_stuck M _ = _; unfold fX11_stuck; rw [q, b1_s, i00], h⟩
  have q : fX11_in (nI s) 0 4 = some 1 := q
  by_cases c0 : alw (M.1 96) (M.1 96 18) (M.1 96 19) (M.1 96 20)
  case neg => exact ⟨-1000002, M, by show fX10_stuck M _ = _; unfold fX10_stuck; rw [within_in, q, b1_s, i10, hereX hb, hereM, if_neg c0, b1_s, i00], by show fX11_stuck M _ = _; unfold fX11_stuck; rw [q, b1_s, i10, hereM, if_neg c0, b1_s, i00], h⟩
  obtain ⟨M1, f1, ⟨m, g, row, lst⟩, y, o⟩ := gatherX hC s
  have md : m ≤ d := lst.1
  have ez : M1.1 96 = M.1 96 := by funext j; exact o 96 j (by omega) (by omega)
  have hM1 : MX t d M1 := hM.cong ez
  have hR1 : R M1 := h.off (fun c j hc => o c j (by unfold tmpP at hc; omega) (by unfold tmpP at hc; omega))
  obtain ⟨y0, ey⟩ : ∃ y0, y0 = vs (M.1 96) false (M.1 96 18) (M.1 96 19) (M.1 96 20) t := ⟨_, rfl⟩
  rw [← ey] at y
  have bt : ∀ j, j < m → fX9_isBetter M1 (nI j) = some (if 0 ≤ lg_cmp (vlz (M.1 96) s t (g j)) y0 then 0 else 1) := fun j hj => by
    unfold fX9_isBetter
    rw [gd_t (inbn (by omega) (by omega)), ixn (by omega), (row.2 j hj).2.2, y]
    by_cases c : 0 ≤ lg_cmp (vlz (M.1 96) s t (g j)) y0
    · rw [if_pos c, if_pos c]
    · rw [if_neg c, if_neg c]
  obtain ⟨rx, fx, hx⟩ := itr_0 (body := fX9_noneIsBetter_L2 M1) (s := (0 : Int32)) (fun i q => q = nI i ∧ ∀ j, j < i → 0 ≤ lg_cmp (vlz (M.1 96) s t (g j)) y0) (fun r => (r = .inl () ∧ ∃ j, j < m ∧ ¬ 0 ≤ lg_cmp (vlz (M.1 96) s t (g j)) y0) ∨ (r = .inr () ∧ ∀ j, j < m → 0 ≤ lg_cmp (vlz (M.1 96) s t (g j)) y0)) m (by omega) ⟨rfl, fun j hj => absurd hj (by omega)⟩ (by
    rintro i x hi ⟨rfl, q1⟩
    rcases Nat.lt_or_ge i m with hl | hl
    · by_cases c : 0 ≤ lg_cmp (vlz (M.1 96) s t (g i)) y0
      · left
        refine ⟨nI (i + 1), ?_, hl, rfl, fun j hj => ?_⟩
        · unfold fX9_noneIsBetter_L2
          rw [row.1, if_neg (ngen (by omega) (by omega) hl), bt i hl, if_pos c, b1_s, i00, nI_1, bd_s]
        · rcases Nat.lt_or_ge j i with w | w
          · exact q1 j w
          · rw [show j = i by omega]; exact c
      · right
        refine ⟨.inl (), ?_, Or.inl ⟨rfl, i, hl, c⟩⟩
        unfold fX9_noneIsBetter_L2
        rw [row.1, if_neg (ngen (by omega) (by omega) hl), bt i hl, if_neg c, b1_s, i10]
    · right
      obtain rfl : i = m := by omega
      refine ⟨.inr (), ?_, Or.inr ⟨rfl, q1⟩⟩
      unfold fX9_noneIsBetter_L2
      rw [row.1, if_pos (gen (by omega) (by omega) (by omega))])
  have hv : fX11_valueHere M1 = some y0 := by
    have q : fX11_valueAt M1 (M1.1 96 18) (M1.1 96 19) (M1.1 96 20) 0 = _ := valM hM1.2.2.2 hM1.2.1 lt false (M1.1 96 18) (M1.1 96 19) (M1.1 96 20)
    unfold fX11_valueHere
    rw [q, b1_s, ez, ey]
  obtain ⟨rm, fm, hm⟩ := itr_0 (body := fX11_stuck_L26 M1 (nI s)) (s := ((1 : Int32), (0 : Int32))) (fun i q => q.2 = nI i ∧ ((q.1 = 1 ∧ ∀ x, x < i → okz (M.1 96) s x → 0 ≤ lg_cmp (vlz (M.1 96) s t x) y0) ∨ (q.1 = 0 ∧ ∃ x, x < i ∧ okz (M.1 96) s x ∧ ¬ 0 ≤ lg_cmp (vlz (M.1 96) s t x) y0))) (fun r => ((r = 1 ∧ ∀ x, x < d → okz (M.1 96) s x → 0 ≤ lg_cmp (vlz (M.1 96) s t x) y0) ∨ (r = 0 ∧ ∃ x, x < d ∧ okz (M.1 96) s x ∧ ¬ 0 ≤ lg_cmp (vlz (M.1 96) s t x) y0))) d (by omega) ⟨rfl, Or.inl ⟨rfl, fun x hx => absurd hx (by omega)⟩⟩ (by
    rintro i ⟨x7, x8⟩ hi ⟨rfl, q1⟩
    have m2 : M1.1 96 2 = nI d := hM1.2.2.1
    rcases Nat.lt_or_ge i d with hl | hl
    · left
      have ok := okM (M := M1) s (i := i) (by omega)
      rw [ez] at ok
      have vv := vlM hM1 (z := M.1 96) (fun j _ => by rw [ez]) s (i := i) (by omega)
      rcases q1 with ⟨w, w2⟩ | ⟨w, x, hx1, hx2, hx3⟩
      · obtain rfl : x7 = 1 := w
        by_cases c : okz (M.1 96) s i
        · rw [if_pos c] at ok
          by_cases c1 : 0 ≤ lg_cmp (vlz (M.1 96) s t i) y0
          · refine ⟨(1, nI (i + 1)), ?_, hl, rfl, Or.inl ⟨rfl, fun x hx hk => ?_⟩⟩
            · unfold fX11_stuck_L26 u2
              dsimp only
              rw [m2, if_neg (ngen (by omega) (by omega) hl), bd_s, bd_s, i10, shl1 hs, ok, b1_s, bd_s, i10, vv, b1_s, hv, b1_s, if_neg ((le0_iff _).mp c1)]
              dsimp only
              rw [nI_1, bd_s]
            · rcases Nat.lt_or_ge x i with w | w
              · exact w2 x w hk
              · rw [show x = i by omega]; exact c1
          · refine ⟨(0, nI (i + 1)), ?_, hl, rfl, Or.inr ⟨rfl, i, by omega, c, c1⟩⟩
            have c2 : lg_cmp (vlz (M.1 96) s t i) y0 < 0 := Classical.byContradiction fun w => c1 ((le0_iff _).mpr w)
            unfold fX11_stuck_L26 u2
            dsimp only
            rw [m2, if_neg (ngen (by omega) (by omega) hl), bd_s, bd_s, i10, shl1 hs, ok, b1_s, bd_s, i10, vv, b1_s, hv, b1_s, if_pos c2]
            dsimp only
            rw [nI_1, bd_s]
        · rw [if_neg c] at ok
          refine ⟨(1, nI (i + 1)), ?_, hl, rfl, Or.inl ⟨rfl, fun x hx hk => ?_⟩⟩
          · unfold fX11_stuck_L26 u2
            dsimp only
            rw [m2, if_neg (ngen (by omega) (by omega) hl), bd_s, bd_s, i10, shl1 hs, ok, b1_s, bd_s, i00]
            dsimp only
            rw [nI_1, bd_s]
          · rcases Nat.lt_or_ge x i with w | w
            · exact w2 x w hk
            · exact absurd (by rw [show i = x by omega]; exact hk) c
      · obtain rfl : x7 = 0 := w
        refine ⟨(0, nI (i + 1)), ?_, hl, rfl, Or.inr ⟨rfl, x, by omega, hx2, hx3⟩⟩
        unfold fX11_stuck_L26 u2
        dsimp only
        rw [m2, if_neg (ngen (by omega) (by omega) hl), bd_s, bd_s, i00]
        dsimp only
        rw [nI_1, bd_s]
    · right
      obtain rfl : i = d := by omega
      refine ⟨x7, ?_, q1⟩
      unfold fX11_stuck_L26 u2
      dsimp only
      rw [m2, if_pos (gen (by omega) (by omega) (by omega))])
  have px : fX10_stuck M (nI s) = b1 (fX9_noneIsBetter M1) fun x10 => b1 (fX10_oneIf x10) fun x12 => some (x12, M1) := by
    unfold fX10_stuck
    rw [within_in, q, b1_s, i10, hereX hb, hereM, if_pos c0, b1_s, i10, shl1 hs, f1, b1_s]
  have pm : fX11_stuck M1 (nI s) = (if rm = 0 then some 0 else some 1) := by
    unfold fX11_stuck
    rw [q, b1_s, i10, hereM, ez, if_pos c0, b1_s, i10, fm, b1_s]
  rcases hx with ⟨rfl, j, hj, hx⟩ | ⟨rfl, hx⟩
  · refine ⟨0, M1, ?_, ?_, hR1⟩
    · show fX10_stuck M (nI s) = _
      rw [px]; unfold fX9_noneIsBetter; rw [fx, bs_l, b1_s, oneIf_z (Or.inl rfl), b1_s]
    · show fX11_stuck M1 (nI s) = _
      rw [pm]
      rcases hm with ⟨rfl, w⟩ | ⟨rfl, w⟩
      · exact absurd (w (g j) (lst.2.2.1 j hj).1 (lst.2.2.1 j hj).2) hx
      · rw [i00]
  · refine ⟨1, M1, ?_, ?_, hR1⟩
    · show fX10_stuck M (nI s) = _
      rw [px]; unfold fX9_noneIsBetter; rw [fx, bs_r, b1_s, oneIf_z (Or.inr rfl), b1_s]
    · show fX11_stuck M1 (nI s) = _
      rw [pm]
      rcases hm with ⟨rfl, w⟩ | ⟨rfl, x, w1, w2, w3⟩
      · rw [i10]
      · obtain ⟨a, ha, rfl⟩ := lst.2.2.2 x w1 w2
        exact absurd (hx a ha) w3
