/-! ===== build ===== -/
theorem cellL {L : Nat} (hL : L ≤ 260) (xs : Nat → Int32) {k : Nat} (hk : k < 1000) : ∃ v, fL_cell L xs (nI k) = some v := by
  unfold fL_cell
  rcases Nat.lt_or_ge k L with q | q
  · rw [if_neg (ngen (by omega) (by omega) q), gd_t (inbn q (by omega))]; exact ⟨_, rfl⟩
  · rw [if_pos (gen (by omega) (by omega) q)]; exact ⟨_, rfl⟩
theorem and_nn (x : Int32) : ∃ Y, Y < 2147483648 ∧ x &&& 2147483647 = nI Y := by
  have h : ¬ (x &&& 2147483647) < 0 := by
    rw [Int32.lt_iff_toInt_lt, ← Int32.toInt_toBitVec, Int32.toBitVec_and, BitVec.toInt_eq_msb_cond, BitVec.msb_and, show (2147483647 : Int32).toBitVec.msb = false by decide, Bool.and_false, if_neg (by decide), show (0 : Int32).toInt = 0 from rfl]
    omega
  obtain ⟨Y, h1, h2⟩ := nI_of h
  exact ⟨Y, h1, h2⟩
theorem lowL (x : Int32) {m : Nat} (h0 : 0 < m) (hm : m < 2147483648) : ∃ r, r < m ∧ fL_low x (nI m) = some (nI r) := by
  obtain ⟨Y, hY, eY⟩ := and_nn x
  refine ⟨Y % m, Nat.mod_lt _ h0, ?_⟩
  unfold fL_low rm
  rw [gd_t (show ¬ nI m = 0 from fun q => by have := (neq (b := 0) (by omega) (by omega)).mp q; omega), eY, pk_rem (by omega) h0 (by omega)]
/-- a number of a variable that may not be there -/
theorem optS {n : Nat} (hn : n ≤ 3) {c m : Nat} (hc : c ≤ 2) (h0 : 0 < m) (hm : m < 2147483648) (y : Int32) : ∃ q, q < m ∧ (n ≤ c → q = 0) ∧ ∀ {β : Type} (f : Int32 → Option β), (bd f fun k => (if nI n ≤ nI c then k 0 else b1 (fL_low y (nI m)) fun x => k x)) = f (nI q) := by
  by_cases q : n ≤ c
  · refine ⟨0, h0, fun _ => rfl, fun f => ?_⟩
    rw [bd_s, if_pos ((nle (by omega) (by omega)).mpr q)]; rfl
  · obtain ⟨r, hr, e⟩ := lowL y h0 hm
    refine ⟨r, hr, fun w => absurd w q, fun f => ?_⟩
    rw [bd_s, if_neg (fun w => q ((nle (by omega) (by omega)).mp w)), e, b1_s]
theorem sub_sm : (∀ r, r < 7 → sm 3 (nI r - 3)) ∧ ∀ r, r < 11 → sm 5 (nI r - 5) := by
  constructor
  · have key : ∀ r, r < 7 → (nI r - 3).toInt.natAbs ≤ 3 := by decide +kernel
    exact key
  · have key : ∀ r, r < 11 → (nI r - 5).toInt.natAbs ≤ 5 := by decide +kernel
    exact key
theorem sm_0 (B : Nat) : sm B (0 : Int32) := by unfold sm; rw [show (0 : Int32).toInt = 0 from rfl]; omega
theorem opt3 {n : Nat} (hn : n ≤ 3) {c : Nat} (hc : c ≤ 2) (y : Int32) : ∃ z, sm 3 z ∧ (n ≤ c → z = 0) ∧ ∀ {β : Type} (f : Int32 → Option β), (bd f fun k => (if nI n ≤ nI c then k 0 else b1 (fL_low y 7) fun x => k (x - 3))) = f z := by
  by_cases q : n ≤ c
  · refine ⟨0, sm_0 3, fun _ => rfl, fun f => ?_⟩
    rw [bd_s, if_pos ((nle (by omega) (by omega)).mpr q)]
  · obtain ⟨r, hr, e⟩ := lowL y (m := 7) (by omega) (by omega)
    have e : fL_low y 7 = some (nI r) := e
    refine ⟨nI r - 3, sub_sm.1 r hr, fun w => absurd w q, fun f => ?_⟩
    rw [bd_s, if_neg (fun w => q ((nle (by omega) (by omega)).mp w)), e, b1_s]
theorem opt5 {n : Nat} (hn : n ≤ 3) {c : Nat} (hc : c ≤ 2) (y : Int32) : ∃ z, sm 5 z ∧ (n ≤ c → z = 0) ∧ ∀ {β : Type} (f : Int32 → Option β), (bd f fun k => (if nI n ≤ nI c then k 0 else b1 (fL_low y 11) fun x => k (x - 5))) = f z := by
  by_cases q : n ≤ c
  · refine ⟨0, sm_0 5, fun _ => rfl, fun f => ?_⟩
    rw [bd_s, if_pos ((nle (by omega) (by omega)).mpr q)]
  · obtain ⟨r, hr, e⟩ := lowL y (m := 11) (by omega) (by omega)
    have e : fL_low y 11 = some (nI r) := e
    refine ⟨nI r - 5, sub_sm.2 r hr, fun w => absurd w q, fun f => ?_⟩
    rw [bd_s, if_neg (fun w => q ((nle (by omega) (by omega)).mp w)), e, b1_s]
theorem facK : ∀ r, r < 9 → (rg (-99) 99 (1 + nI r) ∧ ¬ 1 + nI r = 0) ∧ rg (-99) 99 ((-1) - nI r) ∧ ¬ (-1) - nI r = 0 := by
  unfold rg; decide +kernel
theorem facS (v w : Int32) : ∃ a, rg (-99) 99 a ∧ ¬ a = 0 ∧ ∀ {β : Type} (f : Int32 → Option β), (b1 (fL_low v 2) fun x28 => bd f fun k29 => (if x28 = 0 then b1 (fL_low w 9) fun x51 => k29 (1 + x51) else b1 (fL_low w 9) fun x49 => k29 ((-1) - x49))) = f a := by
  obtain ⟨r, hr, e⟩ := lowL v (m := 2) (by omega) (by omega)
  have e : fL_low v 2 = some (nI r) := e
  obtain ⟨u, hu, e2⟩ := lowL w (m := 9) (by omega) (by omega)
  have e2 : fL_low w 9 = some (nI u) := e2
  by_cases c : nI r = 0
  · refine ⟨1 + nI u, (facK u hu).1.1, (facK u hu).1.2, fun f => ?_⟩
    rw [e, b1_s, bd_s, if_pos c, e2, b1_s]
  · refine ⟨(-1) - nI u, (facK u hu).2.1, (facK u hu).2.2, fun f => ?_⟩
    rw [e, b1_s, bd_s, if_neg c, e2, b1_s]
theorem bTerm {L : Nat} (hL : L ≤ 260) (xs : Nat → Int32) {n t d T : Nat} {M : Mm} (h : BI n t d M) (hT : T < 7) {i : Nat} (hi : i < T) (ht : t ≤ i) : ∃ M' t', fL_build_L66 (nI T) L xs (nI n) (1, nI i, M) = some (.inl (1, nI (i + 1), M')) ∧ BI n t' d M' ∧ t' ≤ i + 1 := by
  have l3 := h.1.1.1.2.1
  obtain ⟨v, ev⟩ := cellL hL xs (k := 2 + i) (by omega)
  obtain ⟨p, hp, ep⟩ := lowL (v >>> (8 &&& 31)) (m := 3) (by omega) (by omega)
  have ep : fL_low (v >>> (8 &&& 31)) 3 = some (nI p) := ep
  obtain ⟨q, hq, q0, eq⟩ := optS l3 (c := 1) (m := 3) (by omega) (by omega) (by omega) (v >>> (10 &&& 31))
  obtain ⟨r, hr, r0, er⟩ := optS l3 (c := 2) (m := 2) (by omega) (by omega) (by omega) (v >>> (12 &&& 31))
  obtain ⟨a, ha, a0, ea⟩ := facS v (v >>> (1 &&& 31))
  unfold fL_build_L66 u3
  dsimp only
  rw [if_neg (ngen (by omega) (by omega) hi), if_neg (show ¬ (1 : Int32) = 0 by decide), show (2 : Int32) + nI i = nI (2 + i) from nI_add 2 i, ev, b1_s, ep, b1_s]
  have eq' : ∀ f : Int32 → Option ((Int32 × Int32 × Mm) ⊕ (Int32 × Mm)), (bd f fun k21 => (if nI n ≤ 1 then k21 0 else b1 (fL_low (v >>> (10 &&& 31)) 3) fun x57 => k21 x57)) = f (nI q) := fun f => eq f
  have er' : ∀ f : Int32 → Option ((Int32 × Int32 × Mm) ⊕ (Int32 × Mm)), (bd f fun k24 => (if nI n ≤ 2 then k24 0 else b1 (fL_low (v >>> (12 &&& 31)) 2) fun x54 => k24 x54)) = f (nI r) := fun f => er f
  rw [eq']
  try dsimp only
  rw [er']
  try dsimp only
  rw [ea]
  try dsimp only
  rw [bd_s, bd_s]
  by_cases c : (4 : Int32) < (nI p + nI q) + nI r
  · rw [if_pos c]
    try dsimp only
    rw [nI_1, bd_s]
    exact ⟨M, t, rfl, h, by omega⟩
  · have hs : p + q + r ≤ 4 := by
      rw [nI_add, nI_add] at c
      rcases Nat.lt_or_ge 4 (p + q + r) with w | w
      · exact absurd (ltn (i := 4) (by omega) (by omega) w) c
      · exact w
    obtain ⟨M', f, hB⟩ := termB h (by omega) ha a0 hs q0 r0
    rw [if_neg c, f, b2_s, cnt_1, b1_s, hB.1.1.2.2.1, if_pos rfl]
    try dsimp only
    rw [nI_1, bd_s]
    exact ⟨M', t + 1, rfl, hB, by omega⟩
theorem bDir {L : Nat} (hL : L ≤ 260) (xs : Nat → Int32) {n t d : Nat} {M : Mm} (h : BI n t d M) {i : Nat} (hi : i < 4) : ∃ M' d', fL_build_L221 L xs (nI n) (1, nI i, M) = some (.inl (1, nI (i + 1), M')) ∧ BI n t d' M' := by
  have l3 := h.1.1.1.2.1
  have ld := h.1.1.1.2.2.2.1
  have n3 : M.1 8 0 = nI d := h.1.1.2.2.2.1
  obtain ⟨v, ev⟩ := cellL hL xs (k := 10 + i) (by omega)
  obtain ⟨p, hp, ep⟩ := lowL v (m := 7) (by omega) (by omega)
  have ep : fL_low v 7 = some (nI p) := ep
  have sp := sub_sm.1 p hp
  obtain ⟨y, sy, y0, ey⟩ := opt3 l3 (c := 1) (by omega) (v >>> (3 &&& 31))
  obtain ⟨w, sw, w0, ew⟩ := opt3 l3 (c := 2) (by omega) (v >>> (6 &&& 31))
  obtain ⟨u, hu, eu⟩ := lowL (v >>> (12 &&& 31)) (m := 3) (by omega) (by omega)
  have eu : fL_low (v >>> (12 &&& 31)) 3 = some (nI u) := eu
  have ey' : ∀ f : Int32 → Option ((Int32 × Int32 × Mm) ⊕ (Int32 × Mm)), (bd f fun k => (if nI n ≤ 1 then k 0 else b1 (fL_low (v >>> (3 &&& 31)) 7) fun x => k (x - 3))) = f y := fun f => ey f
  have ew' : ∀ f : Int32 → Option ((Int32 × Int32 × Mm) ⊕ (Int32 × Mm)), (bd f fun k => (if nI n ≤ 2 then k 0 else b1 (fL_low (v >>> (6 &&& 31)) 7) fun x => k (x - 3))) = f w := fun f => ew f
  unfold fL_build_L221 u3
  dsimp only
  rw [if_neg (show ¬ (4 : Int32) ≤ nI i from ngen (t := 4) (by omega) (by omega) hi), if_neg (show ¬ (1 : Int32) = 0 by decide), show (10 : Int32) + nI i = nI (10 + i) from nI_add 10 i, ev, b1_s, ep, b1_s, bd_s, ey']
  try dsimp only
  rw [ew']
  try dsimp only
  rw [cnt_2, b1_s, n3, eu, b1_s]
  simp only [bd_s, nI_1]
  have add : ∃ M' d', (if nI p - 3 = 0 then (if y = 0 then (if w = 0 then some (Sum.inl ((1 : Int32), nI (i + 1), M)) else b2 (fX10_direction M (nI p - 3) y w) fun x91 M92 => (if x91 = (-1000002) then some (Sum.inl (1, nI (i + 1), M92)) else (if nI d = 8 then (if x91 = (-1000003) then some (Sum.inl (1, nI (i + 1), M92)) else some (Sum.inl (0, nI (i + 1), M92))) else (if x91 = nI d then some (Sum.inl (1, nI (i + 1), M92)) else some (Sum.inl (0, nI (i + 1), M92)))))) else b2 (fX10_direction M (nI p - 3) y w) fun x91 M92 => (if x91 = (-1000002) then some (Sum.inl (1, nI (i + 1), M92)) else (if nI d = 8 then (if x91 = (-1000003) then some (Sum.inl (1, nI (i + 1), M92)) else some (Sum.inl (0, nI (i + 1), M92))) else (if x91 = nI d then some (Sum.inl (1, nI (i + 1), M92)) else some (Sum.inl (0, nI (i + 1), M92)))))) else b2 (fX10_direction M (nI p - 3) y w) fun x91 M92 => (if x91 = (-1000002) then some (Sum.inl (1, nI (i + 1), M92)) else (if nI d = 8 then (if x91 = (-1000003) then some (Sum.inl (1, nI (i + 1), M92)) else some (Sum.inl (0, nI (i + 1), M92))) else (if x91 = nI d then some (Sum.inl (1, nI (i + 1), M92)) else some (Sum.inl (0, nI (i + 1), M92)))))) = (some (Sum.inl (1, nI (i + 1), M')) : Option ((Int32 × Int32 × Mm) ⊕ (Int32 × Mm))) ∧ BI n t d' M' := by
    by_cases z : nI p - 3 = 0 ∧ y = 0 ∧ w = 0
    · rw [if_pos z.1, if_pos z.2.1, if_pos z.2.2]
      exact ⟨M, d, rfl, h⟩
    · obtain ⟨x, M', d', f, hB, hx⟩ := directionB h sp sy sw ⟨y0, w0⟩ z
      have one : (b2 (fX10_direction M (nI p - 3) y w) fun x91 M92 => (if x91 = (-1000002) then some (Sum.inl ((1 : Int32), nI (i + 1), M92)) else (if nI d = 8 then (if x91 = (-1000003) then some (Sum.inl (1, nI (i + 1), M92)) else some (Sum.inl (0, nI (i + 1), M92))) else (if x91 = nI d then some (Sum.inl (1, nI (i + 1), M92)) else some (Sum.inl (0, nI (i + 1), M92)))))) = (some (Sum.inl (1, nI (i + 1), M')) : Option ((Int32 × Int32 × Mm) ⊕ (Int32 × Mm))) := by
        rw [f, b2_s]
        rcases hx with hx | hx
        · rw [if_pos hx]
        · by_cases c1 : x = -1000002
          · rw [if_pos c1]
          · rw [if_neg c1]
            by_cases c2 : nI d = 8
            · rw [if_pos c2] at hx
              rw [if_pos c2, if_pos hx]
            · rw [if_neg c2] at hx
              rw [if_neg c2, if_pos hx]
      refine ⟨M', d', ?_, hB⟩
      rw [one]
      by_cases a1 : nI p - 3 = 0
      · rw [if_pos a1]
        by_cases a2 : y = 0
        · rw [if_pos a2, if_neg (fun a3 => z ⟨a1, a2, a3⟩)]
        · rw [if_neg a2]
      · rw [if_neg a1]
  by_cases c : nI u = 0
  · rw [if_pos c]
    by_cases c2 : nI d ≤ 0
    · rw [if_pos c2]; exact add
    · have hd : 0 < d := by
        rcases Nat.eq_zero_or_pos d with q | q
        · rw [q] at c2; exact absurd (by decide) c2
        · exact q
      obtain ⟨j, hj, ej⟩ := lowL (v >>> (14 &&& 31)) hd (by omega)
      obtain ⟨M', f, hB⟩ := dropB h hj
      rw [if_neg c2, ej, b1_s, f, b2_s, if_pos (show nI (d - 1) = nI d - 1 from (pk_sub (b := 1) (by omega)).symm)]
      exact ⟨M', d - 1, rfl, hB⟩
  · rw [if_neg c]; exact add
theorem bBound {L : Nat} (hL : L ≤ 260) (xs : Nat → Int32) {n t d : Nat} {M : Mm} (h : BI n t d M) {v : Nat} (hv : v < n) : ∃ M', fL_build_L420 (nI n) L xs (1, nI v, M) = some (.inl (1, nI (v + 1), M')) ∧ BI n t d M' := by
  have l3 := h.1.1.1.2.1
  obtain ⟨c, ec⟩ := cellL hL xs (k := 16 + v) (by omega)
  obtain ⟨r, hr, er⟩ := lowL c (m := 46) (by omega) (by omega)
  have er : fL_low c 46 = some (nI r) := er
  obtain ⟨M', f, hB, h6, h7⟩ := boundB h hv (f := 5 + r) (by omega) (by omega)
  obtain ⟨q6, q7⟩ := cnt_bd hB.1.1.2.1 l3 hv
  refine ⟨M', ?_, hB⟩
  unfold fL_build_L420 u3
  dsimp only
  rw [if_neg (ngen (by omega) (by omega) hv), if_neg (show ¬ (1 : Int32) = 0 by decide), show (16 : Int32) + nI v = nI (16 + v) from nI_add 16 v, ec, b1_s, er, b1_s, show (5 : Int32) + nI r = nI (5 + r) from nI_add 5 r, bd_s, f, b2_s, bd_s, bd_s, if_pos rfl, show (10 : Int32) + nI v = nI (10 + v) from nI_add 10 v, q6, b1_s, if_pos h6, show (20 : Int32) + nI v = nI (20 + v) from nI_add 20 v, q7, b1_s, if_pos h7]
  try dsimp only
  rw [nI_1, bd_s]
/-- behind build -/
theorem buildL {L : Nat} (hL : L ≤ 260) (xs : Nat → Int32) {M : Mm} (hh : HI M) (hf : M.1 11 8 = 0 ∨ M.1 11 8 = 1) (h2 : M.1 1 0 = nI 2) {n : Nat} (h1 : 1 ≤ n) (h3 : n ≤ 3) : ∃ M' t d e, fL_build L xs M (nI n) = some (1, M') ∧ JJ n t d e 0 M' ∧ HI M' ∧ PA M' ∧ M'.1 11 5 = -1 := by
  obtain ⟨M3, f3, r3, H3⟩ := variablesB hh hf h1 h3
  have B3 := r3.bi h1 h3 H3
  obtain ⟨x, M4, f4, q4, v4⟩ := spansX B3.1
  have x1 : x = 1 := q4.elim (fun q => q.1) (fun q => absurd (r3.sp h1 h3) q.2)
  have B4 := B3.vw v4
  obtain ⟨c1, e1⟩ := cellL hL xs (k := 1) (by omega)
  have e1 : fL_cell L xs 1 = some c1 := e1
  obtain ⟨T, hT, eT⟩ := lowL c1 (m := 7) (by omega) (by omega)
  have eT : fL_low c1 7 = some (nI T) := eT
  -- the terms
  obtain ⟨⟨y5, M5⟩, f5, hy5, t, B5⟩ := itr_0 (body := fL_build_L66 (nI T) L xs (nI n)) (s := ((1 : Int32), (0 : Int32), M4)) (fun i q => q.1 = 1 ∧ q.2.1 = nI i ∧ ∃ t, t ≤ i ∧ BI n t (2 * n) q.2.2) (fun q => q.1 = 1 ∧ ∃ t, BI n t (2 * n) q.2) T (by omega) ⟨rfl, rfl, 0, by omega, B4⟩ (by
    rintro i ⟨a, b, A⟩ hi ⟨ha, hb, t, ht, hB⟩
    obtain rfl : a = 1 := ha
    obtain rfl : b = nI i := hb
    rcases Nat.lt_or_ge i T with hl | hl
    · left
      obtain ⟨A', t', f, hB', ht'⟩ := bTerm hL xs hB hT hl ht
      exact ⟨_, f, hl, rfl, rfl, t', ht', hB'⟩
    · right
      refine ⟨(1, A), ?_, rfl, t, hB⟩
      unfold fL_build_L66 u3
      dsimp only
      rw [if_pos (gen (by omega) (by omega) hl)])
  obtain rfl : y5 = 1 := hy5
  have B5 : BI n t (2 * n) M5 := B5
  -- the directions
  obtain ⟨⟨y6, M6⟩, f6, hy6, d, B6⟩ := itr_0 (body := fL_build_L221 L xs (nI n)) (s := ((1 : Int32), (0 : Int32), M5)) (fun i q => q.1 = 1 ∧ q.2.1 = nI i ∧ ∃ d, BI n t d q.2.2) (fun q => q.1 = 1 ∧ ∃ d, BI n t d q.2) 4 (by omega) ⟨rfl, rfl, _, B5⟩ (by
    rintro i ⟨a, b, A⟩ hi ⟨ha, hb, d, hB⟩
    obtain rfl : a = 1 := ha
    obtain rfl : b = nI i := hb
    rcases Nat.lt_or_ge i 4 with hl | hl
    · left
      obtain ⟨A', d', f, hB'⟩ := bDir hL xs hB hl
      exact ⟨_, f, hl, rfl, rfl, d', hB'⟩
    · right
      refine ⟨(1, A), ?_, rfl, d, hB⟩
      unfold fL_build_L221 u3
      dsimp only
      rw [if_pos (show (4 : Int32) ≤ nI i from gen (t := 4) (by omega) (by omega) hl)])
  obtain rfl : y6 = 1 := hy6
  have B6 : BI n t d M6 := B6
  -- the bounds
  obtain ⟨⟨y7, M7⟩, f7, hy7, B7⟩ := itr_0 (body := fL_build_L420 (nI n) L xs) (s := ((1 : Int32), (0 : Int32), M6)) (fun i q => q.1 = 1 ∧ q.2.1 = nI i ∧ BI n t d q.2.2) (fun q => q.1 = 1 ∧ BI n t d q.2) n (by omega) ⟨rfl, rfl, B6⟩ (by
    rintro i ⟨a, b, A⟩ hi ⟨ha, hb, hB⟩
    obtain rfl : a = 1 := ha
    obtain rfl : b = nI i := hb
    rcases Nat.lt_or_ge i n with hl | hl
    · left
      obtain ⟨A', f, hB'⟩ := bBound hL xs hB hl
      exact ⟨_, f, hl, rfl, rfl, hB'⟩
    · right
      refine ⟨(1, A), ?_, rfl, hB⟩
      unfold fL_build_L420 u3
      dsimp only
      rw [if_pos (gen (by omega) (by omega) hl)])
  obtain rfl : y7 = 1 := hy7
  have B7 : BI n t d M7 := B7
  -- the order, the start
  obtain ⟨c20, e20⟩ := cellL hL xs (k := 20) (by omega)
  have e20 : fL_cell L xs 20 = some c20 := e20
  obtain ⟨a, ha, ea⟩ := lowL c20 (m := 3) (by omega) (by omega)
  have ea : fL_low c20 3 = some (nI a) := ea
  obtain ⟨b, hb, eb⟩ := lowL (c20 >>> (2 &&& 31)) (m := 2) (by omega) (by omega)
  have eb : fL_low (c20 >>> (2 &&& 31)) 2 = some (nI b) := eb
  obtain ⟨M8, f8, B8⟩ := orderB B7 (a := a) (b := b) (by omega) (by omega)
  obtain ⟨p, hp, ep⟩ := lowL (c20 >>> (4 &&& 31)) (m := 11) (by omega) (by omega)
  have ep : fL_low (c20 >>> (4 &&& 31)) 11 = some (nI p) := ep
  obtain ⟨s, hs, es⟩ := lowL (c20 >>> (16 &&& 31)) (m := 5) (by omega) (by omega)
  have es : fL_low (c20 >>> (16 &&& 31)) 5 = some (nI s) := es
  obtain ⟨y, sy, y0, ey⟩ := opt5 h3 (c := 1) (by omega) (c20 >>> (8 &&& 31))
  obtain ⟨w, sw, w0, ew⟩ := opt5 h3 (c := 2) (by omega) (c20 >>> (12 &&& 31))
  have ey' : ∀ f : Int32 → Option (Int32 × Mm), (bd f fun k => (if nI n ≤ 1 then k 0 else b1 (fL_low (c20 >>> (8 &&& 31)) 11) fun x => k (x - 5))) = f y := fun f => ey f
  have ew' : ∀ f : Int32 → Option (Int32 × Mm), (bd f fun k => (if nI n ≤ 2 then k 0 else b1 (fL_low (c20 >>> (12 &&& 31)) 11) fun x => k (x - 5))) = f w := fun f => ew f
  obtain ⟨M9, f9, J9, H9, P9, l9⟩ := startB B8 (sub_sm.2 p hp) sy sw ⟨y0, w0⟩ (s := s) (by omega)
  refine ⟨M9, t, d, s, ?_, J9, H9, P9, l9⟩
  unfold fL_build
  rw [f3, b2_s, bd_s, bd_s, h2, if_pos (show nI 2 = 2 from rfl), cnt_0, b1_s, B3.1.1.2.1, if_pos rfl, cnt_2, b1_s, B3.1.1.2.2.2.1, if_pos (show nI (2 * n) = 2 * nI n from (pk_mul 2 n).symm), cnt_1, b1_s, B3.1.1.2.2.1, if_pos (show nI 0 = 0 from rfl), f4, b2_s, if_pos x1]
  try dsimp only
  rw [e1, b1_s, eT, b1_s, f5, b2_s, f6, b2_s, f7, b2_s, e20, b1_s, bd_s, bd_s, if_neg (show ¬ (1 : Int32) = 0 by decide), ea, b1_s, eb, b1_s, f8, b2_s, if_pos rfl]
  try dsimp only
  rw [if_neg (show ¬ (1 : Int32) = 0 by decide), ep, b1_s, ey']
  try dsimp only
  rw [ew']
  try dsimp only
  rw [es, b1_s, f9, b2_s, if_pos rfl]
