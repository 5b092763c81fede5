/-! ===== bound, type, keep, restore, undo ===== -/
theorem SRs.cong {d : Nat} {s s' : Nat → Nat → Int32} {z z' : Nat → Int32} (h : SRs d s z) (e1 : s' 0 1 = s 0 1) (e2 : s' 0 2 = s 0 2) (hs : ∀ j, j = 2 ∨ j = 3 ∨ j = 4 ∨ j = 5 ∨ j = 8 → s' 10 j = s 10 j) (hz : ∀ j, 4 ≤ j → j < 12 → j ≠ 10 → z' j = z j) : SRs d s' z' := by
  unfold SRs at h ⊢
  rw [e1, e2, hs 2 (by omega), hs 3 (by omega), hs 4 (by omega), hs 5 (by omega), hs 8 (by omega), hz 4 (by omega) (by omega) (by omega), hz 5 (by omega) (by omega) (by omega), hz 6 (by omega) (by omega) (by omega), hz 7 (by omega) (by omega) (by omega), hz 8 (by omega) (by omega) (by omega), hz 9 (by omega) (by omega) (by omega), hz 11 (by omega) (by omega) (by omega)]
  exact h
theorem SRn.cong {n t d e k : Nat} {s s' : Nat → Nat → Int32} {z z' : Nat → Int32} (h : SRn n t d e k s z) (a : s' 0 0 = s 0 0) (b : s' 1 0 = s 1 0) (c : s' 7 0 = s 7 0) (f : s' 10 1 = s 10 1) (g : s' 10 6 = s 10 6) (hz : ∀ j, j < 4 ∨ j = 10 → z' j = z j) : SRn n t d e k s' z' := by
  unfold SRn at h ⊢
  rw [a, b, c, f, g, hz 0 (by omega), hz 1 (by omega), hz 2 (by omega), hz 3 (by omega), hz 10 (by omega)]
  exact h
abbrev alw (z : Nat → Int32) (x y w : Int32) : Prop := ((z 12).toInt ≤ x.toInt ∧ x.toInt ≤ (z 15).toInt) ∧ ((z 13).toInt ≤ y.toInt ∧ y.toInt ≤ (z 16).toInt) ∧ ((z 14).toInt ≤ w.toInt ∧ w.toInt ≤ (z 17).toInt)
theorem allowM (M : Mm) (x y w : Int32) : fX11_isAllowed M x y w = some (if alw (M.1 96) x y w then 1 else 0) := by
  unfold fX11_isAllowed
  rw [in_any, b1_s]
  by_cases h1 : (M.1 96 12).toInt ≤ x.toInt ∧ x.toInt ≤ (M.1 96 15).toInt
  · rw [if_pos h1, i10, in_any, b1_s]
    by_cases h2 : (M.1 96 13).toInt ≤ y.toInt ∧ y.toInt ≤ (M.1 96 16).toInt
    · rw [if_pos h2, i10, in_any, b1_s]
      by_cases h3 : (M.1 96 14).toInt ≤ w.toInt ∧ w.toInt ≤ (M.1 96 17).toInt
      · rw [if_pos h3, i10, if_pos ⟨h1, h2, h3⟩]
      · rw [if_neg h3, i00, if_neg (fun q => h3 q.2.2)]
    · rw [if_neg h2, i00, if_neg (fun q => h2 q.2.1)]
  · rw [if_neg h1, i00, if_neg (fun q => h1 q.1)]
theorem allowX {M M' : Mm} (h : SRb (blk M 1) (M'.1 96)) (x y w : Int32) : fX0_allow M x y w = fX11_isAllowed M' x y w := by
  have q0 := h 0 (by omega)
  have q1 := h 1 (by omega)
  have q2 := h 2 (by omega)
  have a0 : M.1 6 0 = M'.1 96 12 := q0.1
  have a1 : M.1 6 1 = M'.1 96 13 := q1.1
  have a2 : M.1 6 2 = M'.1 96 14 := q2.1
  have b0 : M.1 7 0 = M'.1 96 15 := q0.2.1
  have b1 : M.1 7 1 = M'.1 96 16 := q1.2.1
  have b2 : M.1 7 2 = M'.1 96 17 := q2.2.1
  unfold fX0_allow fX11_isAllowed
  rw [within_in, a0, a1, a2, b0, b1, b2]
theorem bit_g (c : Prop) [Decidable c] : (if c then (1 : Int32) else 0) = 0 ∨ (if c then (1 : Int32) else 0) = 1 := by
  by_cases h : c
  · right; rw [if_pos h]
  · left; rw [if_neg h]
theorem hereM (M : Mm) : fX11_isHereAllowed M = some (if alw (M.1 96) (M.1 96 18) (M.1 96 19) (M.1 96 20) then 1 else 0) := by
  unfold fX11_isHereAllowed
  rw [allowM, b1_s, gd_t (bit_g _)]
theorem hereX {M M' : Mm} (h : SRb (blk M 1) (M'.1 96)) : fX6_placeIsAllowed M = fX11_isHereAllowed M' := by
  have p0 : M.1 12 0 = M'.1 96 18 := (h 0 (by omega)).2.2.1
  have p1 : M.1 12 1 = M'.1 96 19 := (h 1 (by omega)).2.2.1
  have p2 : M.1 12 2 = M'.1 96 20 := (h 2 (by omega)).2.2.1
  unfold fX6_placeIsAllowed fX11_isHereAllowed
  rw [p0, p1, p2, allowX h]
/-- as Ok2.ch, with what stays besides -/
theorem Ok2.ch2 {fx fm : Mm → Option (Int32 × Mm)} {M : Mm} {kx km : Mm → Option (Int32 × Mm)} (h : R M) (e1 : fx M = b1 (fX2_push M) kx) (e2 : ∀ M1, (∀ c j, c = 96 ∨ (c = 95 ∧ j = 4) → M1.1 c j = M.1 c j) → fm M1 = b1 (fX11_record M1) km)
    (hx : ∀ M1, (∀ c j, c < 14 ∨ (67 ≤ c ∧ c < 80) → M1.1 c j = M.1 c j) → ∃ r, kx M1 = some r ∧ (∀ c j, ¬ (1 ≤ c ∧ c < 14) → ¬ tmpP c j → r.2.1 c j = M1.1 c j) ∧
      ∀ M3, (∀ c j, c = 96 ∨ c = 98 → M3.1 c j = M.1 c j) → (∀ c j, c < 14 → M3.1 c j = r.2.1 c j) → ∃ r2, km M3 = some r2 ∧ (∀ c j, c ≠ 96 → ¬ tmpP c j → r2.2.1 c j = M3.1 c j) ∧ (SR (blk r2.2 1) (r2.2.1 96)) ∧ r.1 = r2.1) : Ok2 fx fm M := by
  obtain ⟨g, g4, g1, g2⟩ := hist_g h
  obtain ⟨M1, f1, p1, o1⟩ := chX h g1 g4
  obtain ⟨r, k1, o2, rest⟩ := hx M1 (fun c j hc => hc.elim (fun q => o1 c j q) (fun q => p1.2.2.2 c j (by omega) (by unfold tmpP; omega)))
  have p2 : PX g M r.2 := p1.off o2
  have e95 : r.2.1 95 3 = nI g := (p2.2.2.2 95 3 (by omega) (by unfold tmpP; omega)).trans g2
  obtain ⟨M3, f3, q1, a1, a2, -⟩ := chM e95 g4
  obtain ⟨r2, k2, o3, hS, hQ⟩ := rest M3 (fun c j hc => by
    rcases hc with rfl | rfl
    · exact (a1 j).trans (p2.2.2.2 96 j (by omega) (by unfold tmpP; omega))
    · exact (a2 98 j (by omega)).trans (p2.2.2.2 98 j (by omega) (by unfold tmpP; omega))) (fun c j hc => a2 c j (by omega))
  refine ⟨r.1, r.2, r2.2, by rw [e1, f1]; exact k1, ?_, h.change g1 g4 p2 (q1.off o3) hS⟩
  rw [e2 r.2 (fun c j hc => p2.2.2.2 c j (by omega) (by unfold tmpP; omega)), f3, hQ]; exact k2
theorem in_ab (w a b : Int32) : fX11_in w a b = some 0 ∨ (fX11_in w a b = some 1 ∧ a.toInt ≤ w.toInt ∧ w.toInt ≤ b.toInt) := by
  rw [in_any]; by_cases h : a.toInt ≤ w.toInt ∧ w.toInt ≤ b.toInt
  · right; rw [if_pos h]; exact ⟨rfl, h⟩
  · left; rw [if_neg h]
theorem p_bound {M : Mm} (h : R M) (w1 w2 w3 : Int32) : Ok2 (fun M => fX10_bound M w1 w2 w3) (fun M => fX11_bound M w1 w2 w3) M := by
  obtain ⟨n, t, d, e, k, hn, hsc, hb', ht, hd, hl⟩ := h.1
  have ln : 1 ≤ n ∧ n ≤ 3 := ⟨hn.1.1, hn.1.2.1⟩
  have a1 : M.1 1 0 = nI n := hn.2.1.1
  have a2 : M.1 96 0 = nI n := hn.2.1.2
  rcases hasVar_eq (M := M) a1 a2 ln w1 with ⟨q1, q2⟩ | ⟨v, hv, rfl, q1, q2⟩
  · exact .no h _ (by show fX10_bound M _ _ _ = _; unfold fX10_bound; rw [q1, b1_s, i00]) (by show fX11_bound M _ _ _ = _; unfold fX11_bound; rw [q2, b1_s, i00])
  rcases in_ab w2 (-50) 50 with h2 | ⟨h2, h2a, h2b⟩
  · exact .no h _ (by show fX10_bound M _ _ _ = _; unfold fX10_bound; rw [q1, b1_s, i10, within_in, h2, b1_s, i00]) (by show fX11_bound M _ _ _ = _; unfold fX11_bound; rw [q2, b1_s, i10, h2, b1_s, i00])
  rcases in_ab w3 w2 50 with h3 | ⟨h3, h3a, h3b⟩
  · exact .no h _ (by show fX10_bound M _ _ _ = _; unfold fX10_bound; rw [q1, b1_s, i10, within_in, h2, b1_s, i10, h3, b1_s, i00]) (by show fX11_bound M _ _ _ = _; unfold fX11_bound; rw [q2, b1_s, i10, h2, b1_s, i10, h3, b1_s, i00])
  refine Ok2.ch h (kx := fun M11 => gd (inb (nI v) 3) <| bd (stI M11 6 (ix (nI v)) w2) fun M13 => bd (stI M13 7 (ix (nI v)) w3) fun M14 => b1 (fX6_placeIsAllowed M14) fun x16 => b1 (fX10_oneIf x16) fun x18 => some (x18, M14)) (km := fun M11 => gd (inb (12 + nI v) 111) <| bd (stI M11 96 (ix (12 + nI v)) w2) fun M13 => gd (inb (15 + nI v) 111) <| bd (stI M13 96 (ix (15 + nI v)) w3) fun M15 => b1 (fX11_isHereAllowed M15) fun x17 => (if x17 = 0 then some (0, M15) else some (1, M15))) ?_ (fun M1 e96 => ?_) (fun M1 lo => ?_)
  · show fX10_bound M _ _ _ = _; unfold fX10_bound; rw [q1, b1_s, i10, within_in, h2, b1_s, i10, h3, b1_s, i10]
  · have q3 : fX11_isVariable M1 (nI v) = some 1 := by rw [← q2]; unfold fX11_isVariable; rw [e96]
    show fX11_bound M1 _ _ _ = _; unfold fX11_bound; rw [q3, b1_s, i10, h2, b1_s, i10, h3, b1_s, i10]
  rw [show ix (nI v) = v from ixn (by omega), show (12 : Int32) + nI v = nI (12 + v) from nI_add 12 v, show (15 : Int32) + nI v = nI (15 + v) from nI_add 15 v, show ix (nI (12 + v)) = 12 + v from ixn (by omega), show ix (nI (15 + v)) = 15 + v from ixn (by omega)]
  obtain ⟨MX, eX⟩ : ∃ MX, MX = stI (stI M1 6 v w2) 7 v w3 := ⟨_, rfl⟩
  have rX : ∀ c j, MX.1 c j = if c = 7 ∧ j = v then w3 else if c = 6 ∧ j = v then w2 else M1.1 c j := fun c j => by rw [eX, stI_rd, stI_rd]
  have m50 : (-50 : Int32).toInt = -50 := by decide
  have p50 : (50 : Int32).toInt = 50 := by decide
  -- the reference's row behind the change
  have key : ∀ M3 : Mm, (∀ j, M3.1 96 j = M.1 96 j) → (∀ c j, c < 14 → M3.1 c j = MX.1 c j) → ∃ MR, MR = stI (stI M3 96 (12 + v) w2) 96 (15 + v) w3 ∧ SR (blk MR 1) (MR.1 96) ∧ SRb (blk MX 1) (MR.1 96) := by
    intro M3 e3 l3
    refine ⟨_, rfl, ?_⟩
    obtain ⟨MR, eR⟩ : ∃ MR, MR = stI (stI M3 96 (12 + v) w2) 96 (15 + v) w3 := ⟨_, rfl⟩
    rw [← eR]
    have rR : ∀ c j, MR.1 c j = if c = 96 ∧ j = 15 + v then w3 else if c = 96 ∧ j = 12 + v then w2 else M3.1 c j := fun c j => by rw [eR, stI_rd, stI_rd]
    have S : ∀ c j, c < 14 → ¬ ((c = 6 ∨ c = 7) ∧ j = v) → MR.1 c j = M.1 c j := fun c j hc h1 => by
      rw [rR, if_neg (by omega), if_neg (by omega), l3 c j hc, rX, if_neg (by omega), if_neg (by omega), lo c j hc]
    have Z : ∀ j, j ≠ 12 + v → j ≠ 15 + v → MR.1 96 j = M.1 96 j := fun j h1 h2 => by rw [rR, if_neg (by omega), if_neg (by omega), e3]
    have SX : ∀ c j, c < 14 → MR.1 c j = MX.1 c j := fun c j hc => by rw [rR, if_neg (by omega), if_neg (by omega), l3 c j hc]
    have hB : SRb (blk MR 1) (MR.1 96) := fun u hu => by
      have q := hb' u hu
      by_cases huv : u = v
      · subst huv
        have z1 : MR.1 96 (12 + u) = w2 := by rw [rR, if_neg (by omega), if_pos ⟨rfl, rfl⟩]
        have z2 : MR.1 96 (15 + u) = w3 := by rw [rR, if_pos ⟨rfl, rfl⟩]
        refine ⟨?_, ?_, ?_, ?_, ?_⟩
        · show MR.1 6 u = _
          rw [z1, SX 6 u (by omega), rX, if_neg (by omega), if_pos ⟨rfl, rfl⟩]
        · show MR.1 7 u = _
          rw [z2, SX 7 u (by omega), rX, if_pos ⟨rfl, rfl⟩]
        · show MR.1 12 u = _
          rw [S 12 u (by omega) (by omega), Z (18 + u) (by omega) (by omega)]; exact q.2.2.1
        · rw [z1]; omega
        · rw [z2]; omega
      · refine ⟨?_, ?_, ?_, ?_, ?_⟩
        · show MR.1 6 u = _
          rw [S 6 u (by omega) (by omega), Z (12 + u) (by omega) (by omega)]; exact q.1
        · show MR.1 7 u = _
          rw [S 7 u (by omega) (by omega), Z (15 + u) (by omega) (by omega)]; exact q.2.1
        · show MR.1 12 u = _
          rw [S 12 u (by omega) (by omega), Z (18 + u) (by omega) (by omega)]; exact q.2.2.1
        · rw [Z (12 + u) (by omega) (by omega)]; exact q.2.2.2.1
        · rw [Z (15 + u) (by omega) (by omega)]; exact q.2.2.2.2
    have q1' := hn.1
    refine ⟨⟨n, t, d, e, k, hn.cong (S 1 0 (by omega) (by omega)) (S 2 0 (by omega) (by omega)) (S 8 0 (by omega) (by omega)) (S 11 1 (by omega) (by omega)) (S 11 6 (by omega) (by omega)) (fun j _ => Z j (by omega) (by omega)), hsc.cong (S 1 1 (by omega) (by omega)) (S 1 2 (by omega) (by omega)) (fun j _ => S 11 j (by omega) (by omega)) (fun j _ _ _ => Z j (by omega) (by omega)), hB, ht.cong q1'.2.2.1 (fun i _ => S 3 i (by omega) (by omega)) (fun i _ => S 4 i (by omega) (by omega)) (fun j _ _ => Z j (by omega) (by omega)), hd.cong q1'.2.2.2.1 (fun i _ => S 10 i (by omega) (by omega)) (fun i _ => S 9 i (by omega) (by omega)) (fun j _ _ => Z j (by omega) (by omega)), hl.cong q1'.2.2.2.2.2 (fun i _ => S 13 i (by omega) (by omega)) (fun j _ _ => Z j (by omega) (by omega))⟩, ?_⟩
    exact hB.cong (fun u hu => ⟨(SX 6 u (by omega)).symm, (SX 7 u (by omega)).symm, (SX 12 u (by omega)).symm⟩) (fun _ _ _ => rfl)
  obtain ⟨MR0, eR0, -, hB0⟩ := key (stI (stI MX 96 (12 + v) w2) 96 (15 + v) w3 |> fun _ => (fun c j => if c = 96 then M.1 96 j else MX.1 c j, MX.2)) (fun j => by simp) (fun c j hc => by show (if c = 96 then _ else _) = _; rw [if_neg (by omega)])
  have hx1 : fX6_placeIsAllowed MX = some (if alw (MR0.1 96) (MR0.1 96 18) (MR0.1 96 19) (MR0.1 96 20) then 1 else 0) := by rw [hereX hB0, hereM]
  refine ⟨(if alw (MR0.1 96) (MR0.1 96 18) (MR0.1 96 19) (MR0.1 96 20) then 1 else 0, MX), ?_, fun c j hc _ => ?_, fun M3 e3 l3 => ?_⟩
  · show gd (inb (nI v) 3) _ = _
    rw [gd_t (inbn (by omega) (by omega))]
    show b1 (fX6_placeIsAllowed (stI (stI M1 6 v w2) 7 v w3)) _ = _
    rw [← eX, hx1, b1_s, oneIf_z (bit_g _), b1_s]
  · show MX.1 c j = _
    rw [rX, if_neg (by omega), if_neg (by omega)]
  · obtain ⟨MR, eR, hS, hB⟩ := key M3 e3 l3
    have same : ∀ j, MR.1 96 j = MR0.1 96 j := fun j => by
      rw [eR, eR0, stI_rd, stI_rd, stI_rd, stI_rd]
      by_cases q : 96 = 96 ∧ j = 15 + v
      · rw [if_pos q, if_pos q]
      rw [if_neg q, if_neg q]
      by_cases q : 96 = 96 ∧ j = 12 + v
      · rw [if_pos q, if_pos q]
      rw [if_neg q, if_neg q, e3]
      simp
    have same' : MR.1 96 = MR0.1 96 := funext same
    refine ⟨(if alw (MR0.1 96) (MR0.1 96 18) (MR0.1 96 19) (MR0.1 96 20) then 1 else 0, MR), ?_, fun c j hc _ => ?_, hS, rfl⟩
    · show gd (inb (nI (12 + v)) 111) _ = _
      rw [gd_t (inbn (by omega) (by omega))]
      show gd (inb (nI (15 + v)) 111) _ = _
      rw [gd_t (inbn (by omega) (by omega))]
      show b1 (fX11_isHereAllowed (stI (stI M3 96 (12 + v) w2) 96 (15 + v) w3)) _ = _
      rw [← eR, hereM, same', b1_s]
      by_cases q : alw (MR0.1 96) (MR0.1 96 18) (MR0.1 96 19) (MR0.1 96 20)
      · rw [if_pos q, i10]
      · rw [if_neg q, i00]
    · show MR.1 c j = _
      rw [eR, stI_rd, if_neg (by omega), stI_rd, if_neg (by omega)]
