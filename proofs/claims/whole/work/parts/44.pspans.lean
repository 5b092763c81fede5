/-! ===== spans, as a call ===== -/
/-- one variable -/
theorem bridge1 {p q : Nat → Nat → Int32} {d : Nat} (hq : ∀ i, i < d → ∀ v, v < 3 → sm 3 (q i v)) (hA : ∀ i, i < d → ∀ v, v < 3 → p i v = q i v) (hE : ∀ k, k < 4 → ∀ v, v < 3 → p (d + k) v = un (2 + k) v) (h1 : ∀ i, i < d → q i 1 = 0) (h2 : ∀ i, i < d → q i 2 = 0) : Whole p (d + 4) ↔ ¬ barB q d 1 0 0 := by
  have E00 : p d 0 = 0 := hE 0 (by omega) 0 (by omega)
  have E01 : p d 1 = 1 := hE 0 (by omega) 1 (by omega)
  have E02 : p d 2 = 0 := hE 0 (by omega) 2 (by omega)
  have E10 : p (d + 1) 0 = 0 := hE 1 (by omega) 0 (by omega)
  have E11 : p (d + 1) 1 = -1 := hE 1 (by omega) 1 (by omega)
  have E12 : p (d + 1) 2 = 0 := hE 1 (by omega) 2 (by omega)
  have E20 : p (d + 2) 0 = 0 := hE 2 (by omega) 0 (by omega)
  have E21 : p (d + 2) 1 = 0 := hE 2 (by omega) 1 (by omega)
  have E22 : p (d + 2) 2 = 1 := hE 2 (by omega) 2 (by omega)
  have E30 : p (d + 3) 0 = 0 := hE 3 (by omega) 0 (by omega)
  have E31 : p (d + 3) 1 = 0 := hE 3 (by omega) 1 (by omega)
  have E32 : p (d + 3) 2 = -1 := hE 3 (by omega) 2 (by omega)
  have A1 : ∀ i, i < d → p i 1 = 0 := fun i hi => (hA i hi 1 (by omega)).trans (h1 i hi)
  have A2 : ∀ i, i < d → p i 2 = 0 := fun i hi => (hA i hi 2 (by omega)).trans (h2 i hi)
  have sp : ∀ i, i < d + 4 → ∀ v, v < 3 → sm 3 (p i v) := fun i hi v hv => by
    rcases Nat.lt_or_ge i d with w | w
    · rw [hA i w v hv]; exact hq i w v hv
    · obtain ⟨k, rfl⟩ : ∃ k, i = d + k := ⟨i - d, by omega⟩
      rw [hE k (by omega) v hv]; exact sm_un _ _
  have crs : ∀ i j, (cr (p i) (p j) 0 = p i 1 * p j 2 - p i 2 * p j 1) ∧ (cr (p i) (p j) 1 = p i 2 * p j 0 - p i 0 * p j 2) ∧ (cr (p i) (p j) 2 = p i 0 * p j 1 - p i 1 * p j 0) := fun i j => ⟨rfl, rfl, rfl⟩
  have dts : ∀ (N : Nat → Int32) r, dt N (p r) = N 0 * p r 0 + N 1 * p r 1 + N 2 * p r 2 := fun N r => rfl
  have flat : ∀ N : Nat → Int32, N 1 = 0 → N 2 = 0 → ∀ r, d ≤ r → r < d + 4 → dt N (p r) = 0 := fun N n1 n2 r w1 w2 => by
    rw [dts, n1, n2]
    rcases (show r = d ∨ r = d + 1 ∨ r = d + 2 ∨ r = d + 3 by omega) with rfl | rfl | rfl | rfl
    · rw [E00]; grind
    · rw [E10]; grind
    · rw [E20]; grind
    · rw [E30]; grind
  -- a side along the first axis
  have ax : ∀ i j, i < d + 4 → j < d + 4 → (cr (p i) (p j) 0 = 1 ∨ cr (p i) (p j) 0 = -1) → cr (p i) (p j) 1 = 0 → cr (p i) (p j) 2 = 0 → (bo p (d + 4) (cr (p i) (p j)) ↔ ¬ barB q d 1 0 0) := fun i j hi hj h0 hy hz => by
    rw [bo_bar (by omega) hA hq (fun v _ => sm_cr (sp i hi) (sp j hj) v) (flat _ hy hz), hy, hz]
    rcases h0 with h0 | h0
    · rw [h0]
    · rw [h0, ← barB_neg, Int32.neg_neg, show -(0 : Int32) = 0 by decide]
  have s02 : cr (p d) (p (d + 2)) 0 = 1 ∧ cr (p d) (p (d + 2)) 1 = 0 ∧ cr (p d) (p (d + 2)) 2 = 0 := by
    obtain ⟨a, b, c⟩ := crs d (d + 2)
    refine ⟨?_, ?_, ?_⟩
    · rw [a, E01, E22, E02]; grind
    · rw [b, E02, E00]; grind
    · rw [c, E00, E20]; grind
  have nz02 : nz (cr (p d) (p (d + 2))) := fun w => absurd (s02.1.symm.trans w.1) (by decide)
  constructor
  · rintro ⟨-, h4⟩
    exact (ax d (d + 2) (by omega) (by omega) (Or.inl s02.1) s02.2.1 s02.2.2).mp (h4 d (d + 2) (by omega) (by omega) nz02)
  · intro h3
    refine ⟨⟨d, d + 2, by omega, by omega, nz02⟩, fun i j hij hj w => ?_⟩
    obtain ⟨a, b, c⟩ := crs i j
    have scr := sm_cr (sp i (by omega)) (sp j hj)
    rcases Nat.lt_or_ge i d with wi | wi
    · rcases Nat.lt_or_ge j d with wj | wj
      · refine absurd ⟨?_, ?_, ?_⟩ w
        · rw [a, A1 i wi, A2 i wi]; grind
        · rw [b, A2 i wi, A2 j wj]; grind
        · rw [c, A1 i wi, A1 j wj]; grind
      · -- a direction and an axis
        have e0 : cr (p i) (p j) 0 = 0 := by rw [a, A1 i wi, A2 i wi]; grind
        rcases (show (j = d ∨ j = d + 1) ∨ (j = d + 2 ∨ j = d + 3) by omega) with hj' | hj'
        · have e1 : cr (p i) (p j) 1 = 0 := by
            rw [b, A2 i wi]
            rcases hj' with rfl | rfl
            · rw [E02]; grind
            · rw [E12]; grind
          refine via (r1 := d + 2) (r2 := d + 3) (X := cr (p i) (p j) 2) (by omega) (by omega) ?_ ?_ (fun e2 => w ⟨e0, e1, e2⟩) (scr 2)
          · rw [dts, e0, e1, E22]; grind
          · rw [dts, e0, e1, E32]; grind
        · have e2 : cr (p i) (p j) 2 = 0 := by
            rw [c, A1 i wi]
            rcases hj' with rfl | rfl
            · rw [E21]; grind
            · rw [E31]; grind
          refine via (r1 := d) (r2 := d + 1) (X := cr (p i) (p j) 1) (by omega) (by omega) ?_ ?_ (fun e1 => w ⟨e0, e1, e2⟩) (scr 1)
          · rw [dts, e0, e2, E01]; grind
          · rw [dts, e0, e2, E11]; grind
    · have pi0 : p i 0 = 0 := by
        rcases (show i = d ∨ i = d + 1 ∨ i = d + 2 ∨ i = d + 3 by omega) with rfl | rfl | rfl | rfl
        · exact E00
        · exact E10
        · exact E20
        · exact E30
      have pj0 : p j 0 = 0 := by
        rcases (show j = d ∨ j = d + 1 ∨ j = d + 2 ∨ j = d + 3 by omega) with rfl | rfl | rfl | rfl
        · exact E00
        · exact E10
        · exact E20
        · exact E30
      have e1 : cr (p i) (p j) 1 = 0 := by rw [b, pi0, pj0]; grind
      have e2 : cr (p i) (p j) 2 = 0 := by rw [c, pi0, pj0]; grind
      have e0 : cr (p i) (p j) 0 = 0 ∨ cr (p i) (p j) 0 = 1 ∨ cr (p i) (p j) 0 = -1 := by
        rw [a]
        rcases (show (i = d ∧ j = d + 1) ∨ (i = d ∧ j = d + 2) ∨ (i = d ∧ j = d + 3) ∨ (i = d + 1 ∧ j = d + 2) ∨ (i = d + 1 ∧ j = d + 3) ∨ (i = d + 2 ∧ j = d + 3) by omega) with ⟨rfl, rfl⟩ | ⟨rfl, rfl⟩ | ⟨rfl, rfl⟩ | ⟨rfl, rfl⟩ | ⟨rfl, rfl⟩ | ⟨rfl, rfl⟩
        · left; rw [E01, E12, E02, E11]; decide
        · right; left; rw [E01, E22, E02, E21]; decide
        · right; right; rw [E01, E32, E02, E31]; decide
        · right; right; rw [E11, E22, E12, E21]; decide
        · right; left; rw [E11, E32, E12, E31]; decide
        · left; rw [E21, E32, E22, E31]; decide
      rcases e0 with e0 | e0
      · exact absurd ⟨e0, e1, e2⟩ w
      · exact (ax i j (by omega) hj e0 e1 e2).mpr h3
theorem Whole.c {p p' : Nat → Nat → Int32} {m : Nat} (h : ∀ i, i < m → ∀ v, v < 3 → p' i v = p i v) : Whole p' m ↔ Whole p m := by
  have e : ∀ i j, i < m → j < m → cr (p' i) (p' j) = cr (p i) (p j) := fun i j hi hj => by
    funext v
    unfold cr
    rw [h i hi 0 (by omega), h i hi 1 (by omega), h i hi 2 (by omega), h j hj 0 (by omega), h j hj 1 (by omega), h j hj 2 (by omega)]
  have e2 : ∀ N r, r < m → dt N (p' r) = dt N (p r) := fun N r hr => by
    unfold dt
    rw [h r hr 0 (by omega), h r hr 1 (by omega), h r hr 2 (by omega)]
  have e3 : ∀ N, bo p' m N ↔ bo p m N := fun N => by
    unfold bo
    exact and_congr ⟨fun ⟨r, a, b⟩ => ⟨r, a, by rw [← e2 N r a]; exact b⟩, fun ⟨r, a, b⟩ => ⟨r, a, by rw [e2 N r a]; exact b⟩⟩ ⟨fun ⟨r, a, b⟩ => ⟨r, a, by rw [← e2 N r a]; exact b⟩, fun ⟨r, a, b⟩ => ⟨r, a, by rw [e2 N r a]; exact b⟩⟩
  constructor
  · rintro ⟨⟨i, j, h1, h2, h3⟩, h4⟩
    refine ⟨⟨i, j, h1, h2, by rw [← e i j (by omega) h2]; exact h3⟩, fun i j h1 h2 h3 => ?_⟩
    have := h4 i j h1 h2 (by rw [e i j (by omega) h2]; exact h3)
    rw [e i j (by omega) h2] at this
    exact (e3 _).mp this
  · rintro ⟨⟨i, j, h1, h2, h3⟩, h4⟩
    refine ⟨⟨i, j, h1, h2, by rw [e i j (by omega) h2]; exact h3⟩, fun i j h1 h2 h3 => ?_⟩
    have := h4 i j h1 h2 (by rw [← e i j (by omega) h2]; exact h3)
    rw [e i j (by omega) h2]
    exact (e3 _).mpr this
theorem p_spans {M : Mm} (h : R M) : Ok1 (fun M => fX10_spans M) (fun M => fX11_spans M) M := by
  obtain ⟨n, t, d, e, k, ⟨le, ld, lt⟩, hC, hM, a11, b3', hb, b0, a10, lk, l1, l3⟩ := R.cm h
  obtain ⟨-, -, a80, -, -, -, -, hd⟩ := hC
  have dd := hd
  have q9 : ∀ i, i < d → ∀ v, v < 3 → M.1 9 (3 * i + v) = M.1 96 (61 + 4 * i + v) := fun i hi v hv => by
    have q := (hd i hi).2.1
    rcases (show v = 0 ∨ v = 1 ∨ v = 2 by omega) with rfl | rfl | rfl
    · exact q.1
    · exact q.2.1
    · exact q.2.2
  obtain ⟨M1, f1, c1, r1, o1⟩ := fillX (n := n) (z := M.1 96) ⟨l1, l3⟩ ld a80 q9
  obtain ⟨q, M2, f2, hq2, o2⟩ := wholeX (M := M1) (m := d + 2 * (3 - n)) (by omega) c1 (p := fun i v => M1.1 93 (3 * i + v)) (fun _ _ => rfl)
  have off : ∀ c j, c ≠ 92 → c ≠ 93 → c ≠ 94 → M2.1 c j = M.1 c j := fun c j w1 w2 w3 => (o2 c j w3).trans (o1 c j w1 w2)
  have hR : R M2 := h.off (fun c j hc => off c j (by unfold tmpP at hc; omega) (by unfold tmpP at hc; omega) (by unfold tmpP at hc; omega))
  have e96 : M2.1 96 = M.1 96 := by funext j; exact off 96 j (by omega) (by omega) (by omega)
  have erw : rw_ M2 = rw_ M := by funext i v; unfold rw_; rw [e96]
  have d2 : M2.1 96 2 = nI d := by rw [e96]; exact hM.2.2.1
  -- the class' answer
  obtain ⟨x, fx, hx⟩ : ∃ x, fX10_spans M = some (x, M2) ∧ bq x (Whole (rws (M.1 96) n d) (d + 2 * (3 - n))) := by
    have wc := Whole.c (p := rws (M.1 96) n d) (p' := fun i v => M1.1 93 (3 * i + v)) (m := d + 2 * (3 - n)) (fun i hi v hv => r1 i hi v hv)
    unfold fX10_spans fX5_isWhole
    rw [a10, f1, b1_s, f2]
    rcases hq2 with ⟨rfl, w⟩ | ⟨x, rfl, w⟩
    · rw [bs_l, b2_s, oneIf_z (Or.inl rfl), b1_s]
      exact ⟨0, rfl, bq0 (fun w' => w (wc.mpr w'))⟩
    · rw [bs_r]
      unfold u2
      dsimp only
      rw [gd_t w.o, b2_s, oneIf_z w.o, b1_s]
      exact ⟨x, rfl, w.c wc⟩
  refine ⟨x, M2, fx, ?_, hR⟩
  show fX11_spans M2 = some x
  have hsm : ∀ i, i < d → ∀ v, v < 3 → sm 3 (rw_ M i v) := fun i hi v hv => by
    have q := (dd i hi).2.2.1 v hv
    unfold sm rw_
    omega
  have hA : ∀ i, i < d → ∀ v, v < 3 → rws (M.1 96) n d i v = rw_ M i v := fun i hi v hv => by unfold rws; rw [if_pos hi]; rfl
  have hE : ∀ k v, rws (M.1 96) n d (d + k) v = un (2 * n + k) v := fun k v => by unfold rws; rw [if_neg (by omega), Nat.add_sub_cancel_left]
  have same : ∀ {r : Int32} {P : Prop}, bq r P → (P ↔ Whole (rws (M.1 96) n d) (d + 2 * (3 - n))) → x = r := fun {r P} hr hP => by
    rcases hr.c hP with ⟨rfl, w⟩ | ⟨rfl, w⟩
    · rcases hx with ⟨rfl, w'⟩ | ⟨rfl, w'⟩
      · rfl
      · exact absurd w w'
    · rcases hx with ⟨rfl, w'⟩ | ⟨rfl, w'⟩
      · exact absurd w' w
      · rfl
  unfold fX11_spans
  rw [e96, b0]
  rcases (show n = 1 ∨ n = 2 ∨ n = 3 by omega) with rfl | rfl | rfl
  · rw [if_pos (show nI 1 = 1 from rfl)]
    obtain ⟨r, fr, hr⟩ := bothM (M := M2) ld d2 1 0 0
    rw [erw] at hr
    have key := bridge1 (p := rws (M.1 96) 1 d) (q := rw_ M) (d := d) hsm hA (fun k hk v hv => hE k v) (fun i hi => (dd i hi).2.2.1 1 (by omega) |>.2.2 (by omega)) (fun i hi => (dd i hi).2.2.1 2 (by omega) |>.2.2 (by omega))
    rw [fr, b1_s]
    by_cases c : r = 0
    · rw [if_pos c, i10, same (bq1 (hr.z.mp c)) key.symm]
    · rw [if_neg c, i00, same (bq0 (fun w => c (hr.z.mpr w))) key.symm]
  · rw [if_neg (show ¬ nI 2 = 1 by decide), if_pos (show nI 2 = 2 from rfl)]
    obtain ⟨r, fr, hr⟩ := twoM (M := M2) ld d2
    rw [erw] at hr
    have key := bridge2 (p := rws (M.1 96) 2 d) (q := rw_ M) (d := d) hsm hA (fun k hk v hv => hE k v) (fun i hi => (dd i hi).2.2.1 2 (by omega) |>.2.2 (by omega)) (fun i hi w => (dd i hi).2.2.2 ⟨w.1, w.2, (dd i hi).2.2.1 2 (by omega) |>.2.2 (by omega)⟩)
    rw [fr, b1_s, same hr key.symm]
    rcases hr.o with rfl | rfl
    · rw [i00]
    · rw [i10]
  · rw [if_neg (show ¬ nI 3 = 1 by decide), if_neg (show ¬ nI 3 = 2 by decide)]
    obtain ⟨r, fr, hr⟩ := threeM (M := M2) ld d2
    rw [erw] at hr
    have key := (Whole.c (p := rw_ M) (p' := rws (M.1 96) 3 d) (m := d) (fun i hi v hv => hA i hi v hv)).trans (bridge3 (q := rw_ M) hsm)
    rw [fr, b1_s, same hr key.symm]
    rcases hr.o with rfl | rfl
    · rw [i00]
    · rw [i10]
