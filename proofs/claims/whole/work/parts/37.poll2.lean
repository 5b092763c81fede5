/-! ===== poll, run ===== -/
theorem failX {M : Mm} {e : Nat} (h1 : M.1 11 1 = nI (2 ^ e)) (he : e ≤ 4) : ∃ M', fX4_fail M = some M' ∧ ∀ c j, M'.1 c j = if c = 11 ∧ j = 1 then nI (2 ^ (e - 1)) else if c = 11 ∧ j = 8 then (if e = 0 then 1 else 0) else M.1 c j := by
  have go : ∀ x : Int32, (x = 0 ∨ x = 1) → x = (if e = 0 then 1 else 0) → ∃ M', (gd (x = 0 ∨ x = 1) <| bd (stI M 11 8 x) fun M5 => bd (stI M5 11 1 (if ((M5.1 11 1) / 2) < 1 then 1 else ((M5.1 11 1) / 2))) fun M6 => some M6) = some M' ∧ ∀ c j, M'.1 c j = if c = 11 ∧ j = 1 then nI (2 ^ (e - 1)) else if c = 11 ∧ j = 8 then (if e = 0 then 1 else 0) else M.1 c j := by
    intro x hx hx2
    refine gd_x hx (bd_st fun M5 r5 _ => ?_)
    rw [show M5.1 11 1 = nI (2 ^ e) by rw [r5, if_neg (by omega), h1], hf e (by omega)]
    exact bd_st fun M6 r6 _ => ⟨M6, rfl, fun c j => by rw [r6, r5, hx2]⟩
  unfold fX4_fail
  rw [bd_s, h1]
  by_cases w : e = 0
  · rw [if_pos ((sz1 e (by omega)).mpr w)]
    exact go 1 (Or.inr rfl) (by rw [if_pos w])
  · rw [if_neg (fun q => w ((sz1 e (by omega)).mp q))]
    exact go 0 (Or.inl rfl) (by rw [if_neg w])
theorem poll2 {A B : Mm} (h : SR (blk A 1) (B.1 96)) : ∃ r A' B', fX6_pollOnce A = some (r, A') ∧ fX11_pollOnce B = some (r, B') ∧ SR (blk A' 1) (B'.1 96) ∧ (∀ c j, ¬ (1 ≤ c ∧ c < 14) → ¬ tmpP c j → A'.1 c j = A.1 c j) ∧ ∀ c j, c ≠ 96 → ¬ tmpP c j → B'.1 c j = B.1 c j := by
  obtain ⟨n, t, d, e, k, hn, hsc, hb, ht, hd, hl⟩ := h
  obtain ⟨⟨l1, l2, l3, l4, l5, l6⟩, n1, n2, n3, n4, n5⟩ := hn
  obtain ⟨⟨t1, t2, t3, t4, t5, t6, t7⟩, t8, t9, t10, t11⟩ := hsc
  have a10 : A.1 1 0 = nI n := n1.1
  have a20 : A.1 2 0 = nI t := n2.1
  have a80 : A.1 8 0 = nI d := n3.1
  have a111 : A.1 11 1 = nI (2 ^ e) := n4.1
  have a116 : A.1 11 6 = nI k := n5.1
  have a11 : A.1 1 1 = B.1 96 4 := t1
  have a12 : A.1 1 2 = B.1 96 5 := t2
  have a112 : A.1 11 2 = B.1 96 6 := t3
  have a113 : A.1 11 3 = B.1 96 7 := t4
  have a114 : A.1 11 4 = B.1 96 8 := t5
  have a115 : A.1 11 5 = B.1 96 9 := t6
  have b0 : B.1 96 0 = nI n := n1.2
  have b1' : B.1 96 1 = nI t := n2.2
  have b2' : B.1 96 2 = nI d := n3.2
  have b3' : B.1 96 3 = nI e := n4.2
  have b10 : B.1 96 10 = nI k := n5.2
  have hC : CX n t d A (B.1 96) := ⟨⟨l3, l4⟩, a20, a80, a11, a115, hb, ht, hd⟩
  have hM : MX t d B := ⟨⟨l3, l4⟩, b1', b2', fun i hi => (ht i hi).2.2⟩
  obtain ⟨all, hall⟩ : ∃ all, (B.1 96 5 = 0 ∧ all = false) ∨ (B.1 96 5 = 1 ∧ all = true) := by
    rcases t9 with q | q
    · exact ⟨false, Or.inl ⟨q, rfl⟩⟩
    · exact ⟨true, Or.inr ⟨q, rfl⟩⟩
  -- the class gathers and chooses
  obtain ⟨A2, f2, ⟨m, g, row, lst⟩, y2, o2⟩ := gatherX hC e
  have md : m ≤ d := lst.1
  obtain ⟨c, ec⟩ : ∃ c, c = ch (vlz (B.1 96) e t) g all m 0 (-1) (vs (B.1 96) false (B.1 96 18) (B.1 96 19) (B.1 96 20) t) := ⟨_, rfl⟩
  obtain ⟨A3, e3⟩ : ∃ A3, A3 = stI A2 86 5 0 := ⟨_, rfl⟩
  have r3 : ∀ c j, A3.1 c j = if c = 86 ∧ j = 5 then 0 else A2.1 c j := fun c j => by rw [e3, stI_rd]
  have row3 : RowX A3 m g (rkz (B.1 96) e t) (vlz (B.1 96) e t) := ⟨by rw [r3, if_neg (by omega)]; exact row.1, fun j hj => by rw [r3, if_neg (by omega), e3, stI_2]; exact row.2 j hj⟩
  have a212 : A2.1 1 2 = B.1 96 5 := (o2 1 2 (by omega) (by omega)).trans a12
  obtain ⟨q, A5, f5, fq, c5, o5⟩ := chooseX hall (by omega) m 0 (-1) (vs (B.1 96) false (B.1 96 18) (B.1 96 19) (B.1 96 20) t) A3 (by omega) row3 (by rw [r3, if_pos ⟨rfl, rfl⟩]; rfl) 1000 (by omega)
  rw [← ec] at fq c5
  have fch : fX9_chooseBetter A2 (A2.1 1 2) = some (c.1, A5) := by
    unfold fX9_chooseBetter
    rw [a212, y2, bd_s, bd_s, ← e3, show (0 : Int32) = nI 0 from rfl, f5]
    rcases fq with rfl | rfl <;> rfl
  have oA : ∀ c j, ¬ (86 ≤ c ∧ c < 90) → A5.1 c j = A.1 c j := fun c j w => by rw [o5 c j (by omega), r3, if_neg (by omega), o2 c j (by omega) (by omega)]
  obtain ⟨A7, e7, r7⟩ : ∃ A7, A7 = stI (stI A5 11 2 (A5.1 11 2 + 1)) 11 4 ((stI A5 11 2 (A5.1 11 2 + 1)).1 11 4 + (stI A5 11 2 (A5.1 11 2 + 1)).1 86 5) ∧ ∀ c' j, A7.1 c' j = if c' = 11 ∧ j = 4 then B.1 96 8 + nI c.2 else if c' = 11 ∧ j = 2 then B.1 96 6 + 1 else A5.1 c' j := by
    refine ⟨_, rfl, fun c' j => ?_⟩
    rw [stI_rd, show (stI A5 11 2 (A5.1 11 2 + 1)).1 11 4 = B.1 96 8 by rw [stI_rd, if_neg (by omega), oA 11 4 (by omega), a114], show (stI A5 11 2 (A5.1 11 2 + 1)).1 86 5 = nI c.2 by rw [stI_rd, if_neg (by omega), c5], stI_rd, oA 11 2 (by omega), a112]
  have pre : fX6_pollOnce A = (if c.1 = (-1) then b1 (fX4_fail A7) fun M21 => some ((-1), M21) else bd (A7.1 11 1) fun x9 => gd (inb c.1 8) <| bd (stI A7 10 (ix c.1) ((A7.1 10 (ix c.1)) + 1)) fun M11 => b1 (fX6_trialNumber M11 c.1 0 x9) fun x13 => b1 (fX6_trialNumber M11 c.1 1 x9) fun x15 => b1 (fX6_trialNumber M11 c.1 2 x9) fun x17 => b1 (fX4_succeed M11 c.1 x13 x15 x17) fun M19 => some (c.1, M19)) := by
    unfold fX6_pollOnce
    rw [a111, f2, b1_s, fch, b2_s, bd_s, bd_s, ← e7]
  -- the reference lays its row and chooses
  obtain ⟨B3, g3, rowM, p3⟩ := layM hM l5 b3' lst
  have ez : B3.1 96 = B.1 96 := by funext j; exact p3 96 j (by omega) (by omega)
  have hM3 : MX t d B3 := hM.cong ez
  have gl : ∀ a, a < m → g a < d := fun a ha => (lst.2.2.1 a ha).1
  obtain ⟨B5, g5, d5, p5⟩ := chooseM (all := all) (t := t) (d := d) (m := m) (e := e) (g := g) (z := B.1 96) hall (by omega) (fun a ha => by have := gl a ha; omega) m 0 (-1) (vs (B.1 96) false (B.1 96 18) (B.1 96 19) (B.1 96 20) t) B3 (by omega) rowM hM3 (fun j _ => by rw [ez]) (Or.inl (by decide)) 1000 (by omega)
  rw [← ec] at g5 d5
  rw [ez, Nat.sub_zero] at d5
  have v3 : fX11_valueHere B3 = some (vs (B.1 96) false (B.1 96 18) (B.1 96 19) (B.1 96 20) t) := by
    have q : fX11_valueAt B3 (B3.1 96 18) (B3.1 96 19) (B3.1 96 20) 0 = _ := valM hM3.2.2.2 hM3.2.1 l3 false (B3.1 96 18) (B3.1 96 19) (B3.1 96 20)
    unfold fX11_valueHere
    rw [q, b1_s, ez]
  obtain ⟨B6, e6, r6⟩ : ∃ B6, B6 = stI B5 96 6 (B5.1 96 6 + 1) ∧ ∀ c' j, B6.1 c' j = if c' = 96 ∧ j = 6 then B.1 96 6 + 1 else B5.1 c' j := by
    refine ⟨_, rfl, fun c' j => ?_⟩
    rw [stI_rd, p5 96 6 (by omega), ez]
  have oB : ∀ j, j ≠ 8 → B5.1 96 j = B.1 96 j := fun j w => by rw [p5 96 j (by omega), ez]
  have oB2 : ∀ c j, c ≠ 96 → ¬ tmpP c j → B5.1 c j = B.1 c j := fun c j w1 w2 => by rw [p5 c j (by omega), p3 c j (by unfold tmpP at w2; omega) (by unfold tmpP at w2; omega)]
  have preM : fX11_pollOnce B = bd (fun (x32 : Int32) => bd (stI B6 96 11 x32) fun M33 => (if c.1 < 0 then (if (M33.1 96 3) ≤ 0 then bd (stI M33 96 3 ((M33.1 96 3) - 0)) fun M36 => some (c.1, M36) else bd (stI M33 96 3 ((M33.1 96 3) - 1)) fun M37 => some (c.1, M37)) else b1 (fX11_take M33 c.1 (nI (2 ^ e))) fun M39 => some (c.1, M39))) fun k30 => bd (fun (_ : Unit) => k30 0) fun k40 => (if 0 ≤ c.1 then k40 () else (if nI (2 ^ e) = 1 then k30 1 else k40 ())) := by
    unfold fX11_pollOnce
    rw [b3', shl1 l5, bd_s, g3, b1_s, v3, b1_s, show (0 : Int32) = nI 0 from rfl, g5, b2_s, bd_s, ← e6]
  obtain ⟨-, -, cv⟩ := ch_b (vlz (B.1 96) e t) g all m 0 (-1) (vs (B.1 96) false (B.1 96 18) (B.1 96 19) (B.1 96 20) t)
  rw [← ec] at cv
  by_cases cneg : c.1 = -1
  · -- no better trial
    have lt0 : c.1 < 0 := by rw [cneg]; decide
    have nge : ¬ 0 ≤ c.1 := by rw [cneg]; decide
    obtain ⟨A9, f9, r9⟩ := failX (M := A7) (e := e) (by rw [r7, if_neg (by omega), if_neg (by omega), oA 11 1 (by omega), a111]) l5
    obtain ⟨B9, g9, s9⟩ : ∃ B9, (bd (fun (x32 : Int32) => bd (stI B6 96 11 x32) fun M33 => (if c.1 < 0 then (if (M33.1 96 3) ≤ 0 then bd (stI M33 96 3 ((M33.1 96 3) - 0)) fun M36 => some (c.1, M36) else bd (stI M33 96 3 ((M33.1 96 3) - 1)) fun M37 => some (c.1, M37)) else b1 (fX11_take M33 c.1 (nI (2 ^ e))) fun M39 => some (c.1, M39))) fun k30 => bd (fun (_ : Unit) => k30 0) fun k40 => (if 0 ≤ c.1 then k40 () else (if nI (2 ^ e) = 1 then k30 1 else k40 ()))) = some (c.1, B9) ∧ ∀ c' j, B9.1 c' j = if c' = 96 ∧ j = 3 then nI (e - 1) else if c' = 96 ∧ j = 11 then (if e = 0 then 1 else 0) else B6.1 c' j := by
      have go : ∀ x : Int32, x = (if e = 0 then 1 else 0) → ∃ B9, (bd (stI B6 96 11 x) fun M33 => (if c.1 < 0 then (if (M33.1 96 3) ≤ 0 then bd (stI M33 96 3 ((M33.1 96 3) - 0)) fun M36 => some (c.1, M36) else bd (stI M33 96 3 ((M33.1 96 3) - 1)) fun M37 => some (c.1, M37)) else b1 (fX11_take M33 c.1 (nI (2 ^ e))) fun M39 => some (c.1, M39))) = some (c.1, B9) ∧ ∀ c' j, B9.1 c' j = if c' = 96 ∧ j = 3 then nI (e - 1) else if c' = 96 ∧ j = 11 then (if e = 0 then 1 else 0) else B6.1 c' j := by
        intro x hx
        rw [bd_s, if_pos lt0]
        have e33 : (stI B6 96 11 x).1 96 3 = nI e := by rw [stI_rd, if_neg (by omega), r6, if_neg (by omega), oB 3 (by omega), b3']
        rw [e33]
        rcases Nat.eq_zero_or_pos e with w | w
        · rw [if_pos (show nI e ≤ 0 from gen (t := e) (i := 0) (by omega) (by omega) (by omega)), bd_s]
          refine ⟨_, rfl, fun c' j => ?_⟩
          rw [stI_rd, stI_rd, hx, w]
          rfl
        · rw [if_neg (show ¬ nI e ≤ 0 from ngen (t := e) (i := 0) (by omega) (by omega) w), bd_s, sub1 w]
          refine ⟨_, rfl, fun c' j => ?_⟩
          rw [stI_rd, stI_rd, hx]
      rw [bd_s, bd_s, if_neg nge]
      by_cases w : e = 0
      · rw [if_pos ((sz1 e (by omega)).mpr w)]
        exact go 1 (by rw [if_pos w])
      · rw [if_neg (fun q => w ((sz1 e (by omega)).mp q))]
        exact go 0 (by rw [if_neg w])
    refine ⟨c.1, A9, B9, by rw [pre, if_pos cneg, f9, b1_s, cneg], by rw [preM]; exact g9, ?_, fun c' j w1 w2 => ?_, fun c' j w1 w2 => ?_⟩
    · have S : ∀ c' j, c' < 14 → ¬ (c' = 11 ∧ (j = 1 ∨ j = 2 ∨ j = 4 ∨ j = 8)) → A9.1 c' j = A.1 c' j := fun c' j w1 w2 => by rw [r9, if_neg (by omega), if_neg (by omega), r7, if_neg (by omega), if_neg (by omega), oA c' j (by omega)]
      have Z : ∀ j, ¬ (j = 3 ∨ j = 6 ∨ j = 8 ∨ j = 11) → B9.1 96 j = B.1 96 j := fun j w => by rw [s9, if_neg (by omega), if_neg (by omega), r6, if_neg (by omega), oB j (by omega)]
      refine ⟨n, t, d, e - 1, k, ⟨⟨l1, l2, l3, l4, by omega, l6⟩, ⟨(S 1 0 (by omega) (by omega)).trans a10, (Z 0 (by omega)).trans b0⟩, ⟨(S 2 0 (by omega) (by omega)).trans a20, (Z 1 (by omega)).trans b1'⟩, ⟨(S 8 0 (by omega) (by omega)).trans a80, (Z 2 (by omega)).trans b2'⟩, ⟨?_, ?_⟩, ⟨(S 11 6 (by omega) (by omega)).trans a116, (Z 10 (by omega)).trans b10⟩⟩, ⟨⟨?_, ?_, ?_, ?_, ?_, ?_, ?_⟩, ?_, ?_, ?_, ?_⟩, hb.cong (fun v _ => ⟨S 6 v (by omega) (by omega), S 7 v (by omega) (by omega), S 12 v (by omega) (by omega)⟩) (fun j _ _ => Z j (by omega)), ht.cong l3 (fun i _ => S 3 i (by omega) (by omega)) (fun i _ => S 4 i (by omega) (by omega)) (fun j _ _ => Z j (by omega)), hd.cong l4 (fun i _ => S 10 i (by omega) (by omega)) (fun i _ => S 9 i (by omega) (by omega)) (fun j _ _ => Z j (by omega)), hl.cong l6 (fun i _ => S 13 i (by omega) (by omega)) (fun j _ _ => Z j (by omega))⟩
      · show A9.1 11 1 = _
        rw [r9, if_pos ⟨rfl, rfl⟩]
      · rw [s9, if_pos ⟨rfl, rfl⟩]
      · exact (S 1 1 (by omega) (by omega)).trans (a11.trans (Z 4 (by omega)).symm)
      · exact (S 1 2 (by omega) (by omega)).trans (a12.trans (Z 5 (by omega)).symm)
      · show A9.1 11 2 = B9.1 96 6
        rw [r9, if_neg (by omega), if_neg (by omega), r7, if_neg (by omega), if_pos ⟨rfl, rfl⟩, s9, if_neg (by omega), if_neg (by omega), r6, if_pos ⟨rfl, rfl⟩]
      · exact (S 11 3 (by omega) (by omega)).trans (a113.trans (Z 7 (by omega)).symm)
      · show A9.1 11 4 = B9.1 96 8
        rw [r9, if_neg (by omega), if_neg (by omega), r7, if_pos ⟨rfl, rfl⟩, s9, if_neg (by omega), if_neg (by omega), r6, if_neg (by omega), d5]
      · exact (S 11 5 (by omega) (by omega)).trans (a115.trans (Z 9 (by omega)).symm)
      · show A9.1 11 8 = B9.1 96 11
        have w1 : A9.1 11 8 = if e = 0 then 1 else 0 := by rw [r9, if_neg (by omega), if_pos ⟨rfl, rfl⟩]
        have w2 : B9.1 96 11 = if e = 0 then 1 else 0 := by rw [s9, if_neg (by omega), if_pos ⟨rfl, rfl⟩]
        exact w1.trans w2.symm
      · rw [Z 4 (by omega)]; exact t8
      · rw [Z 5 (by omega)]; exact t9
      · rw [s9, if_neg (by omega), if_pos ⟨rfl, rfl⟩]
        by_cases w : e = 0
        · rw [if_pos w]; exact Or.inr rfl
        · rw [if_neg w]; exact Or.inl rfl
      · rw [Z 9 (by omega)]; exact t11
    · rw [r9, if_neg (by omega), if_neg (by omega), r7, if_neg (by omega), if_neg (by omega), oA c' j (by unfold tmpP at w2; omega)]
    · rw [s9, if_neg (by omega), if_neg (by omega), r6, if_neg (by omega), oB2 c' j w1 w2]
  · -- the place moves to the trial
    obtain ⟨a, -, ha, ci⟩ := cv.resolve_left cneg
    have il : g a < d := gl a (by omega)
    obtain ⟨i, ei⟩ : ∃ i, i = g a := ⟨_, rfl⟩
    rw [← ei] at il ci
    have nlt0 : ¬ c.1 < 0 := by rw [ci]; exact notneg (by omega)
    have ge0 : 0 ≤ c.1 := by rw [ci]; exact gen (t := 0) (by omega) (by omega) (by omega)
    have a7 : A7.1 11 1 = nI (2 ^ e) := by rw [r7, if_neg (by omega), if_neg (by omega), oA 11 1 (by omega), a111]
    obtain ⟨A8, e8⟩ : ∃ A8, A8 = stI A7 10 i (A7.1 10 i + 1) := ⟨_, rfl⟩
    have r8 : ∀ c' j, A8.1 c' j = if c' = 10 ∧ j = i then A.1 10 i + 1 else A7.1 c' j := fun c' j => by rw [e8, stI_rd, show A7.1 10 i = A.1 10 i by rw [r7, if_neg (by omega), if_neg (by omega), oA 10 i (by omega)]]
    have q8 : ∀ c' j, c' ≠ 10 → c' ≠ 11 → ¬ (86 ≤ c' ∧ c' < 90) → A8.1 c' j = A.1 c' j := fun c' j w1 w2 w3 => by rw [r8, if_neg (by omega), r7, if_neg (by omega), if_neg (by omega), oA c' j w3]
    have tr : ∀ v, v < 3 → fX6_trialNumber A8 (nI i) (nI v) (nI (2 ^ e)) = some (trz (B.1 96) e i v) := fun v hv => by
      rw [trial_cong (M := A) (fun j => q8 12 j (by omega) (by omega) (by omega)) (fun j => q8 9 j (by omega) (by omega) (by omega))]
      exact trialX hC e il hv
    have tr0 : fX6_trialNumber A8 (nI i) 0 (nI (2 ^ e)) = _ := tr 0 (by omega)
    have tr1 : fX6_trialNumber A8 (nI i) 1 (nI (2 ^ e)) = _ := tr 1 (by omega)
    have tr2 : fX6_trialNumber A8 (nI i) 2 (nI (2 ^ e)) = _ := tr 2 (by omega)
    obtain ⟨A9, f9, ⟨u1, u2', u3', u4', u5', u6, u8⟩, ⟨v0, v1, v2⟩, w0, w1, o9⟩ := succeedX (M := A8) (k := k) (e := e) (by rw [r8, if_neg (by omega), r7, if_neg (by omega), if_neg (by omega), oA 11 6 (by omega), a116]) (by rw [r8, if_neg (by omega), a7]) l6 l5 (nI i) (trz (B.1 96) e i 0) (trz (B.1 96) e i 1) (trz (B.1 96) e i 2)
    obtain ⟨B7, e7'⟩ : ∃ B7, B7 = stI B6 96 11 0 := ⟨_, rfl⟩
    have r7' : ∀ c' j, B7.1 c' j = if c' = 96 ∧ j = 11 then 0 else B6.1 c' j := fun c' j => by rw [e7', stI_rd]
    have q7 : ∀ j, ¬ (j = 6 ∨ j = 8 ∨ j = 11) → B7.1 96 j = B.1 96 j := fun j w => by rw [r7', if_neg (by omega), r6, if_neg (by omega), oB j (by omega)]
    obtain ⟨B9, g9, ⟨x3, x7, x9, x10⟩, ⟨y0, y1, y2'⟩, z3, z93, z96, zo, po⟩ := takeM (M := B7) (k := k) (e := e) (i := i) (s := e) ((q7 10 (by omega)).trans b10) l6 ((q7 3 (by omega)).trans b3') l5 (by omega)
    have tq : ∀ v, v < 3 → trz (B7.1 96) e i v = trz (B.1 96) e i v := fun v hv => by
      unfold trz
      rw [q7 _ (by omega), q7 _ (by omega)]
    rw [tq 0 (by omega)] at y0
    rw [tq 1 (by omega)] at y1
    rw [tq 2 (by omega)] at y2'
    refine ⟨c.1, A9, B9, ?_, ?_, ?_, fun c' j w1 w2 => ?_, fun c' j w1 w2 => ?_⟩
    · rw [pre, if_neg cneg, bd_s, a7, ci, gd_t (inbn (by omega) (by omega)), ixn (by omega), bd_s, ← e8, tr0, b1_s, tr1, b1_s, tr2, b1_s, f9, b1_s]
    · rw [preM, bd_s, bd_s, if_pos ge0]
      dsimp only
      rw [bd_s, if_neg nlt0, ← e7', ci, g9, b1_s]
    · have S : ∀ c' j, c' < 14 → c' ≠ 10 → c' ≠ 11 → c' ≠ 12 → c' ≠ 13 → A9.1 c' j = A.1 c' j := fun c' j w1 w2 w3 w4 w5 => by rw [o9 c' j w3 w4 w5, q8 c' j w2 w3 (by omega)]
      have Z : ∀ j, j ≠ 3 → j ≠ 6 → j ≠ 7 → j ≠ 8 → j ≠ 9 → j ≠ 10 → j ≠ 11 → ¬ (18 ≤ j ∧ j < 21) → j ≠ 61 + 4 * i + 3 → j < 93 → B9.1 96 j = B.1 96 j := fun j w1 w2 w3 w4 w5 w6 w7 w8 w9 w10 => by rw [zo j w1 w3 w5 w6 w8 w9 w10, q7 j (by omega)]
      have Z' : ∀ j, j = 6 ∨ j = 8 ∨ j = 11 → B9.1 96 j = B7.1 96 j := fun j w => zo j (by omega) (by omega) (by omega) (by omega) (by omega) (by omega) (by omega)
      have e11 : ∀ j, j = 2 ∨ j = 4 ∨ j = 3 → A8.1 11 j = A7.1 11 j := fun j w => by rw [r8, if_neg (by omega)]
      refine ⟨n, t, d, min (e + 1) 4, min (k + 1) 6, ⟨⟨l1, l2, l3, l4, by omega, by omega⟩, ⟨(S 1 0 (by omega) (by omega) (by omega) (by omega) (by omega)).trans a10, (Z 0 (by omega) (by omega) (by omega) (by omega) (by omega) (by omega) (by omega) (by omega) (by omega) (by omega)).trans b0⟩, ⟨(S 2 0 (by omega) (by omega) (by omega) (by omega) (by omega)).trans a20, (Z 1 (by omega) (by omega) (by omega) (by omega) (by omega) (by omega) (by omega) (by omega) (by omega) (by omega)).trans b1'⟩, ⟨(S 8 0 (by omega) (by omega) (by omega) (by omega) (by omega)).trans a80, (Z 2 (by omega) (by omega) (by omega) (by omega) (by omega) (by omega) (by omega) (by omega) (by omega) (by omega)).trans b2'⟩, ⟨u1, x3⟩, ⟨u6, x10⟩⟩, ⟨⟨?_, ?_, ?_, ?_, ?_, ?_, ?_⟩, ?_, ?_, ?_, ?_⟩, ?_, ht.cong l3 (fun i _ => S 3 i (by omega) (by omega) (by omega) (by omega) (by omega)) (fun i _ => S 4 i (by omega) (by omega) (by omega) (by omega) (by omega)) (fun j _ _ => Z j (by omega) (by omega) (by omega) (by omega) (by omega) (by omega) (by omega) (by omega) (by omega) (by omega)), fun u hu => ?_, fun u hu => ?_⟩
      · show A9.1 1 1 = B9.1 96 4
        rw [S 1 1 (by omega) (by omega) (by omega) (by omega) (by omega), Z 4 (by omega) (by omega) (by omega) (by omega) (by omega) (by omega) (by omega) (by omega) (by omega) (by omega), a11]
      · show A9.1 1 2 = B9.1 96 5
        rw [S 1 2 (by omega) (by omega) (by omega) (by omega) (by omega), Z 5 (by omega) (by omega) (by omega) (by omega) (by omega) (by omega) (by omega) (by omega) (by omega) (by omega), a12]
      · show A9.1 11 2 = B9.1 96 6
        rw [u2', e11 2 (by omega), r7, if_neg (by omega), if_pos ⟨rfl, rfl⟩, Z' 6 (by omega), r7', if_neg (by omega), r6, if_pos ⟨rfl, rfl⟩]
      · show A9.1 11 3 = B9.1 96 7
        rw [u3', e11 3 (by omega), r7, if_neg (by omega), if_neg (by omega), oA 11 3 (by omega), a113, x7, q7 7 (by omega)]
      · show A9.1 11 4 = B9.1 96 8
        rw [u4', e11 4 (by omega), r7, if_pos ⟨rfl, rfl⟩, Z' 8 (by omega), r7', if_neg (by omega), r6, if_neg (by omega), d5]
      · exact u5'.trans x9.symm
      · show A9.1 11 8 = B9.1 96 11
        rw [u8, Z' 11 (by omega), r7', if_pos ⟨rfl, rfl⟩]
      · rw [Z 4 (by omega) (by omega) (by omega) (by omega) (by omega) (by omega) (by omega) (by omega) (by omega) (by omega)]; exact t8
      · rw [Z 5 (by omega) (by omega) (by omega) (by omega) (by omega) (by omega) (by omega) (by omega) (by omega) (by omega)]; exact t9
      · rw [Z' 11 (by omega), r7', if_pos ⟨rfl, rfl⟩]; exact Or.inl rfl
      · exact Or.inr ⟨i, il, x9⟩
      · intro v hv
        have q := hb v hv
        refine ⟨?_, ?_, ?_, ?_, ?_⟩
        · show A9.1 6 v = _
          rw [S 6 v (by omega) (by omega) (by omega) (by omega) (by omega), Z (12 + v) (by omega) (by omega) (by omega) (by omega) (by omega) (by omega) (by omega) (by omega) (by omega) (by omega)]; exact q.1
        · show A9.1 7 v = _
          rw [S 7 v (by omega) (by omega) (by omega) (by omega) (by omega), Z (15 + v) (by omega) (by omega) (by omega) (by omega) (by omega) (by omega) (by omega) (by omega) (by omega) (by omega)]; exact q.2.1
        · rcases (show v = 0 ∨ v = 1 ∨ v = 2 by omega) with rfl | rfl | rfl
          · exact v0.trans y0.symm
          · exact v1.trans y1.symm
          · exact v2.trans y2'.symm
        · rw [Z (12 + v) (by omega) (by omega) (by omega) (by omega) (by omega) (by omega) (by omega) (by omega) (by omega) (by omega)]; exact q.2.2.2.1
        · rw [Z (15 + v) (by omega) (by omega) (by omega) (by omega) (by omega) (by omega) (by omega) (by omega) (by omega) (by omega)]; exact q.2.2.2.2
      · have q := hd u hu
        have zz : ∀ v, v < 3 → B9.1 96 (61 + 4 * u + v) = B.1 96 (61 + 4 * u + v) := fun v hv => Z _ (by omega) (by omega) (by omega) (by omega) (by omega) (by omega) (by omega) (by omega) (by omega) (by omega)
        refine ⟨?_, ⟨?_, ?_, ?_⟩, q.2.2.cong (fun j h1 h2 => Z j (by omega) (by omega) (by omega) (by omega) (by omega) (by omega) (by omega) (by omega) (by omega) (by omega))⟩
        · show A9.1 10 u = B9.1 96 (61 + 4 * u + 3)
          have q1 : A.1 10 u = B.1 96 (61 + 4 * u + 3) := q.1
          rw [o9 10 u (by omega) (by omega) (by omega), r8]
          by_cases w : u = i
          · rw [if_pos ⟨rfl, w⟩, w, z3, q7 _ (by omega), ← w, q1]
          · rw [if_neg (by omega), r7, if_neg (by omega), if_neg (by omega), oA 10 u (by omega), q1, Z _ (by omega) (by omega) (by omega) (by omega) (by omega) (by omega) (by omega) (by omega) (by omega) (by omega)]
        · show A9.1 9 (3 * u) = B9.1 96 (61 + 4 * u + 0)
          rw [S 9 _ (by omega) (by omega) (by omega) (by omega) (by omega), zz 0 (by omega)]; exact q.2.1.1
        · show A9.1 9 (3 * u + 1) = B9.1 96 (61 + 4 * u + 1)
          rw [S 9 _ (by omega) (by omega) (by omega) (by omega) (by omega), zz 1 (by omega)]; exact q.2.1.2.1
        · show A9.1 9 (3 * u + 2) = B9.1 96 (61 + 4 * u + 2)
          rw [S 9 _ (by omega) (by omega) (by omega) (by omega) (by omega), zz 2 (by omega)]; exact q.2.1.2.2
      · show A9.1 13 u = B9.1 96 (93 + u)
        rcases Nat.lt_or_ge u 3 with w | w
        · rw [w0 u w, q8 12 u (by omega) (by omega) (by omega), z93 u w, q7 _ (by omega)]; exact (hb u w).2.2.1
        · rw [w1 u w (by omega), q8 13 _ (by omega) (by omega) (by omega), z96 u w (by omega), q7 _ (by omega)]; exact hl (u - 3) (by omega)
    · rw [o9 c' j (by omega) (by omega) (by omega), r8, if_neg (by omega), r7, if_neg (by omega), if_neg (by omega), oA c' j (by unfold tmpP at w2; omega)]
    · rw [po c' j w1, r7', if_neg (by omega), r6, if_neg (by omega), oB2 c' j w1 w2]
