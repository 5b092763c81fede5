/-! ===== the calls of build ===== -/
def BI (n t d : Nat) (M : Mm) : Prop := JJ n t d 2 0 M ∧ HI M ∧ (∀ u, u < 3 → M.1 12 u = 0 ∧ (M.1 6 u).toInt ≤ -5 ∧ 5 ≤ (M.1 7 u).toInt) ∧ M.1 1 1 = 0 ∧ M.1 1 2 = 0 ∧ M.1 11 5 = -1
theorem BI.pa {n t d : Nat} {M : Mm} (h : BI n t d M) : PA M := fun v hv => by
  obtain ⟨a, b, c⟩ := h.2.2.1 v hv
  rw [a, show (0 : Int32).toInt = 0 from rfl]; omega
theorem BI.vw {n t d : Nat} {M M' : Mm} (h : BI n t d M) (w : Vw M M') : BI n t d M' := by
  obtain ⟨a, b, c, e, f, g⟩ := h
  have l := w.lo
  refine ⟨a.vw w, b.vw w, fun u hu => ?_, (l 1 1 (by omega)).trans e, (l 1 2 (by omega)).trans f, (l 11 5 (by omega)).trans g⟩
  rw [l 12 u (by omega), l 6 u (by omega), l 7 u (by omega)]; exact c u hu
/-- a call that records and then changes some cells of the state -/
theorem push_then {n t d e k : Nat} {M : Mm} (h : JJ n t d e k M) (hh : HI M) : ∃ M1, fX2_push M = some M1 ∧ Lo M M1 ∧ HI M1 := by
  obtain ⟨M1, f, o, q⟩ := pushH hh h.2.1.2.2.1
  exact ⟨M1, f, fun c j w => o c j (by omega), q⟩
theorem HI.low {M M' : Mm} (h : HI M) (o : ∀ c j, 14 ≤ c → M'.1 c j = M.1 c j) : HI M' := h.c (fun c j q _ => o c j q)
theorem un_nz : ∀ i, i < 6 → ¬ (un i 0 = 0 ∧ un i 1 = 0 ∧ un i 2 = 0) := by decide +kernel
theorem RS.bi {n : Nat} {M : Mm} (h1 : 1 ≤ n) (h3 : n ≤ 3) (r : RS n M) (hh : HI M) : BI n 0 (2 * n) M := by
  obtain ⟨⟨a, b, c, f⟩, ⟨g, q⟩, w, ⟨s1, s2, s3, s4, s5, s6, s8⟩⟩ := r
  have m50 : (-50 : Int32).toInt = -50 := by decide
  have p50 : (50 : Int32).toInt = 50 := by decide
  refine ⟨⟨⟨⟨h1, h3, by omega, by omega, by omega, by omega⟩, a, f, g, s1, s6⟩, ⟨Or.inl b, Or.inl c, Or.inl s8, Or.inl s5⟩, fun v hv => ?_, fun i hi => absurd hi (by omega), fun i hi => ⟨fun v hv => ?_, ?_⟩⟩, hh, fun u hu => ?_, b, c, s5⟩
  · rw [(w v hv).1, (w v hv).2.1]
    exact ⟨by omega, by omega, fun _ => ⟨rfl, rfl, (w v hv).2.2⟩⟩
  · rw [(q i hi).2 v hv]
    refine ⟨(un_rg i v).1, (un_rg i v).2, fun c => ?_⟩
    unfold un; rw [if_neg (by omega)]
  · rw [show M.1 9 (3 * i) = un i 0 from (q i hi).2 0 (by omega), (q i hi).2 1 (by omega), (q i hi).2 2 (by omega)]
    exact un_nz i (by omega)
  · rw [(w u hu).1, (w u hu).2.1]
    exact ⟨(w u hu).2.2, by omega, by omega⟩
theorem un_whole : Whole un 6 := by
  have key : ∀ i, i < 6 → ∀ j, j < 6 → i < j → ¬ (cr (un i) (un j) 0 = 0 ∧ cr (un i) (un j) 1 = 0 ∧ cr (un i) (un j) 2 = 0) → (([0, 1, 2, 3, 4, 5].any fun r => !decide (dt (cr (un i) (un j)) (un r) ≤ 0)) = true ∧ ([0, 1, 2, 3, 4, 5].any fun r => !decide (0 ≤ dt (cr (un i) (un j)) (un r))) = true) := by decide +kernel
  have lt : ∀ r, r ∈ [0, 1, 2, 3, 4, 5] → r < 6 := by decide
  exact ⟨⟨0, 2, by omega, by omega, by unfold nz; decide +kernel⟩, fun i j hij hj q => by
    obtain ⟨k1, k2⟩ := key i (by omega) j hj hij q
    obtain ⟨r, r1, r2⟩ := List.any_eq_true.mp k1
    obtain ⟨u, u1, u2⟩ := List.any_eq_true.mp k2
    exact ⟨⟨r, lt r r1, by simpa using r2⟩, u, lt u u1, by simpa using u2⟩⟩
theorem RS.sp {n : Nat} {M : Mm} (h1 : 1 ≤ n) (h3 : n ≤ 3) (r : RS n M) : Sp n (2 * n) M := by
  unfold Sp
  rw [show 2 * n + 2 * (3 - n) = 6 by omega]
  refine (Whole.c (p := un) (fun i hi v hv => ?_)).mpr un_whole
  rcases Nat.lt_or_ge i (2 * n) with q | q
  · rw [rws_d q hv]; exact (r.2.1.2 i q).2 v hv
  · obtain ⟨k, rfl⟩ : ∃ k, i = 2 * n + k := ⟨i - 2 * n, by omega⟩
    exact rws_e
theorem variablesB {M : Mm} (hh : HI M) (f : M.1 11 8 = 0 ∨ M.1 11 8 = 1) {n : Nat} (h1 : 1 ≤ n) (h3 : n ≤ 3) : ∃ M', fX10_variables M (nI n) = some (M.1 1 0, M') ∧ RS n M' ∧ HI M' := by
  obtain ⟨M1, f1, o1, H1⟩ := pushH hh f
  obtain ⟨M2, f2, r2, o2⟩ := resetX M1 h3
  refine ⟨M2, ?_, r2, H1.low (fun c j q => o2 c j (by omega))⟩
  have q : fX11_in (nI n) 1 3 = some 1 := by
    rw [in_any, tin (by omega), show (1 : Int32).toInt = 1 by decide, show (3 : Int32).toInt = 3 by decide, if_pos (by constructor <;> omega)]
  unfold fX10_variables
  rw [within_in, q, b1_s, i10, bd_s, f1, b1_s, f2, b1_s]
theorem rg04 {p : Nat} (h : p ≤ 4) : rg 0 4 (nI p) := by
  unfold rg
  rw [tin (by omega), show (0 : Int32).toInt = 0 from rfl, show (4 : Int32).toInt = 4 by decide]
  constructor <;> omega
theorem ofn_nI {n q r : Nat} (h1 : n ≤ 1 → q = 0) (h2 : n ≤ 2 → r = 0) : ofn n (nI q) (nI r) := ⟨fun c => by rw [h1 c]; rfl, fun c => by rw [h2 c]; rfl⟩
theorem termB {n t d : Nat} {M : Mm} (h : BI n t d M) (ht : t < 10) {a : Int32} (ha : rg (-99) 99 a) (a0 : ¬ a = 0) {p q r : Nat} (hs : p + q + r ≤ 4) (h1 : n ≤ 1 → q = 0) (h2 : n ≤ 2 → r = 0) : ∃ M', fX10_term M a (nI p) (nI q) (nI r) = some (nI (t + 1), M') ∧ BI n (t + 1) d M' := by
  obtain ⟨hJ, hH, hb, o1, o2, o5⟩ := h
  obtain ⟨M1, f1, l1, H1⟩ := push_then hJ hH
  obtain ⟨M2, f2, r2⟩ := addT (M := M1) (t := t) ((l1 2 0 (by omega)).trans hJ.1.2.2.1) ht a (nI p) (nI q) (nI r)
  obtain ⟨⟨h0, n1, n2, n3, n4, n5⟩, hs', hb', ht', hd'⟩ := hJ
  have S : ∀ c j, c < 14 → c ≠ 2 → c ≠ 3 → c ≠ 4 → M2.1 c j = M.1 c j := fun c j q1 q2 q3 q4 => by
    rw [r2, if_neg (by omega), if_neg (by omega), if_neg (by omega), if_neg (by omega), if_neg (by omega)]; exact l1 c j q1
  have hsum : (nI p + nI q) + nI r ≤ 4 := by rw [nI_add, nI_add]; exact (nle (b := 4) (by omega) (by omega)).mpr hs
  have m99 : (-99 : Int32).toInt = -99 := by decide
  have p99 : (99 : Int32).toInt = 99 := by decide
  refine ⟨M2, ?_, ⟨⟨⟨h0.1, h0.2.1, by omega, h0.2.2.2⟩, (S 1 0 (by omega) (by omega) (by omega) (by omega)).trans n1, ?_, (S 8 0 (by omega) (by omega) (by omega) (by omega)).trans n3, (S 11 1 (by omega) (by omega) (by omega) (by omega)).trans n4, (S 11 6 (by omega) (by omega) (by omega) (by omega)).trans n5⟩, hs'.c (S 1 1 (by omega) (by omega) (by omega) (by omega)) (S 1 2 (by omega) (by omega) (by omega) (by omega)) (S 11 8 (by omega) (by omega) (by omega) (by omega)) (S 11 5 (by omega) (by omega) (by omega) (by omega)), hb'.c (fun v _ => S 6 v (by omega) (by omega) (by omega) (by omega)) (fun v _ => S 7 v (by omega) (by omega) (by omega) (by omega)) (fun v _ _ => S 12 v (by omega) (by omega) (by omega) (by omega)), fun i hi => ?_, hd'.c (fun j => S 9 j (by omega) (by omega) (by omega) (by omega))⟩, H1.low (fun c j q => ?_), fun u hu => ?_, (S 1 1 (by omega) (by omega) (by omega) (by omega)).trans o1, (S 1 2 (by omega) (by omega) (by omega) (by omega)).trans o2, (S 11 5 (by omega) (by omega) (by omega) (by omega)).trans o5⟩
  · rw [termX, n1, if_pos ⟨⟨ha, a0, rg04 (by omega), rg04 (by omega), rg04 (by omega)⟩, ofn_ofv h0.2.1 (ofn_nI h1 h2), hsum⟩, n2, if_pos (show nI t < 10 from ltn (t := 10) (by omega) (by omega) ht), f1, b1_s, f2, b1_s, r2, if_pos ⟨rfl, rfl⟩]
  · rw [r2, if_pos ⟨rfl, rfl⟩]
  · rcases Nat.lt_or_ge i t with w | w
    · have z := ht' i w
      have e3 : M2.1 3 i = M.1 3 i := by rw [r2, if_neg (by omega), if_neg (by omega), if_neg (by omega), if_neg (by omega), if_neg (by omega)]; exact l1 3 i (by omega)
      have e4 : ∀ j, j < 3 * t → M2.1 4 j = M.1 4 j := fun j q => by rw [r2, if_neg (by omega), if_neg (by omega), if_neg (by omega), if_neg (by omega), if_neg (by omega)]; exact l1 4 j (by omega)
      rw [e3, e4 (3 * i) (by omega), e4 (3 * i + 1) (by omega), e4 (3 * i + 2) (by omega)]
      exact z
    · obtain rfl : i = t := by omega
      refine ⟨?_, p, q, r, hs, ?_, ?_, ?_⟩
      · rw [r2, if_neg (by omega), if_neg (by omega), if_neg (by omega), if_neg (by omega), if_pos ⟨rfl, rfl⟩]
        unfold rg at ha; omega
      · rw [r2, if_neg (by omega), if_neg (by omega), if_neg (by omega), if_pos ⟨rfl, rfl⟩]
      · rw [r2, if_neg (by omega), if_neg (by omega), if_pos ⟨rfl, rfl⟩]
      · rw [r2, if_neg (by omega), if_pos ⟨rfl, rfl⟩]
  · rw [r2, if_neg (by omega), if_neg (by omega), if_neg (by omega), if_neg (by omega), if_neg (by omega)]
  · rw [S 12 u (by omega) (by omega) (by omega) (by omega), S 6 u (by omega) (by omega) (by omega) (by omega), S 7 u (by omega) (by omega) (by omega) (by omega)]; exact hb u hu
theorem rg33 {x : Int32} (h : sm 3 x) : rg (-3) 3 x := by
  have m3 : (-3 : Int32).toInt = -3 := by decide
  have p3 : (3 : Int32).toInt = 3 := by decide
  unfold sm at h; constructor <;> omega
theorem directionB {n t d : Nat} {M : Mm} (h : BI n t d M) {x y w : Int32} (hx : sm 3 x) (hy : sm 3 y) (hw : sm 3 w) (ho : ofn n y w) (hz : ¬ (x = 0 ∧ y = 0 ∧ w = 0)) : ∃ r M' d', fX10_direction M x y w = some (r, M') ∧ BI n t d' M' ∧ (r = -1000002 ∨ r = (if nI d = 8 then -1000003 else nI d)) := by
  obtain ⟨hJ, hH, hb, o1, o2, o5⟩ := id h
  obtain ⟨⟨h0, n1, n2, n3, n4, n5⟩, hs', hb', ht', hd'⟩ := id hJ
  have ld := h0.2.2.2.1
  obtain ⟨u, fu, hu⟩ := hasX hJ.srd n3 ld x y w
  have pre : fX10_direction M x y w = (b1 (fX1_has M x y w) fun x7 => (if x7 = 0 then (if (M.1 8 0) < 8 then b1 (fX2_push M) fun M11 => b1 (fX1_add M11 x y w) fun M13 => some ((M13.1 8 0) - 1, M13) else some ((-1000003), M)) else some ((-1000002), M))) := by
    rw [directionX, if_pos]
    exact ⟨⟨rg33 hx, rg33 hy, rg33 hw, by rw [n1]; exact ofn_ofv h0.2.1 ho⟩, hz⟩
  rw [pre]
  rcases hu with ⟨rfl, -⟩ | ⟨rfl, -⟩
  · have fh : fX1_has M x y w = some 1 := by unfold fX1_has; rw [fu]; rfl
    rw [fh, b1_s, i10]
    exact ⟨_, M, d, rfl, h, Or.inl rfl⟩
  · have fh : fX1_has M x y w = some 0 := by unfold fX1_has; rw [fu]; rfl
    rw [fh, b1_s, i00, n3]
    rcases Nat.lt_or_ge d 8 with hl | hl
    · obtain ⟨M1, f1, l1, H1⟩ := push_then hJ hH
      obtain ⟨M2, f2, r2⟩ := addD (M := M1) (t := d) ((l1 8 0 (by omega)).trans n3) hl x y w
      have S : ∀ c j, c < 14 → c ≠ 8 → c ≠ 9 → c ≠ 10 → M2.1 c j = M.1 c j := fun c j q1 q2 q3 q4 => by
        rw [r2, if_neg (by omega), if_neg (by omega), if_neg (by omega), if_neg (by omega), if_neg (by omega)]; exact l1 c j q1
      rw [if_pos (show nI d < 8 from ltn (t := 8) (by omega) (by omega) hl), f1, b1_s, f2, b1_s]
      refine ⟨M2.1 8 0 - 1, M2, d + 1, rfl, ⟨⟨⟨⟨h0.1, h0.2.1, h0.2.2.1, by omega, h0.2.2.2.2⟩, (S 1 0 (by omega) (by omega) (by omega) (by omega)).trans n1, (S 2 0 (by omega) (by omega) (by omega) (by omega)).trans n2, ?_, (S 11 1 (by omega) (by omega) (by omega) (by omega)).trans n4, (S 11 6 (by omega) (by omega) (by omega) (by omega)).trans n5⟩, ⟨?_, ?_, ?_, ?_⟩, hb'.c (fun v _ => S 6 v (by omega) (by omega) (by omega) (by omega)) (fun v _ => S 7 v (by omega) (by omega) (by omega) (by omega)) (fun v _ _ => S 12 v (by omega) (by omega) (by omega) (by omega)), ht'.c (fun j => S 3 j (by omega) (by omega) (by omega) (by omega)) (fun j => S 4 j (by omega) (by omega) (by omega) (by omega)), fun i hi => ?_⟩, H1.low (fun c j q => ?_), fun u hu => ?_, (S 1 1 (by omega) (by omega) (by omega) (by omega)).trans o1, (S 1 2 (by omega) (by omega) (by omega) (by omega)).trans o2, (S 11 5 (by omega) (by omega) (by omega) (by omega)).trans o5⟩, Or.inr ?_⟩
      · rw [r2, if_pos ⟨rfl, rfl⟩]
      · rw [S 1 1 (by omega) (by omega) (by omega) (by omega)]; exact hs'.1
      · rw [S 1 2 (by omega) (by omega) (by omega) (by omega)]; exact hs'.2.1
      · rw [S 11 8 (by omega) (by omega) (by omega) (by omega)]; exact hs'.2.2.1
      · rw [S 11 5 (by omega) (by omega) (by omega) (by omega)]; exact Or.inl o5
      · rcases Nat.lt_or_ge i d with w1 | w1
        · have e9 : ∀ j, j < 3 * d → M2.1 9 j = M.1 9 j := fun j q => by rw [r2, if_neg (by omega), if_neg (by omega), if_neg (by omega), if_neg (by omega), if_neg (by omega)]; exact l1 9 j (by omega)
          have z := hd' i w1
          refine ⟨fun v hv => ?_, ?_⟩
          · rw [e9 _ (by omega)]; exact z.1 v hv
          · rw [e9 _ (by omega), e9 _ (by omega), e9 _ (by omega)]; exact z.2
        · obtain rfl : i = d := by omega
          have a0 : M2.1 9 (3 * i) = x := by rw [r2, if_neg (by omega), if_neg (by omega), if_neg (by omega), if_neg (by omega), if_pos ⟨rfl, rfl⟩]
          have a1 : M2.1 9 (3 * i + 1) = y := by rw [r2, if_neg (by omega), if_neg (by omega), if_neg (by omega), if_pos ⟨rfl, rfl⟩]
          have a2 : M2.1 9 (3 * i + 2) = w := by rw [r2, if_neg (by omega), if_neg (by omega), if_pos ⟨rfl, rfl⟩]
          refine ⟨fun v hv => ?_, by rw [a0, a1, a2]; exact hz⟩
          unfold sm at hx hy hw
          rcases (show v = 0 ∨ v = 1 ∨ v = 2 by omega) with rfl | rfl | rfl
          · rw [Nat.add_zero, a0]; exact ⟨by omega, by omega, fun c => by have := h0.1; omega⟩
          · rw [a1]; exact ⟨by omega, by omega, ho.1⟩
          · rw [a2]; exact ⟨by omega, by omega, ho.2⟩
      · rw [r2, if_neg (by omega), if_neg (by omega), if_neg (by omega), if_neg (by omega), if_neg (by omega)]
      · rw [S 12 u (by omega) (by omega) (by omega) (by omega), S 6 u (by omega) (by omega) (by omega) (by omega), S 7 u (by omega) (by omega) (by omega) (by omega)]; exact hb u hu
      · rw [r2, if_pos ⟨rfl, rfl⟩, if_neg (fun q => by have := (neq (b := 8) (by omega) (by omega)).mp q; omega)]
        exact (pk_sub (b := 1) (by omega)).trans (by rw [Nat.add_sub_cancel])
    · obtain rfl : d = 8 := by omega
      rw [if_neg (show ¬ nI 8 < 8 by decide)]
      exact ⟨_, M, 8, rfl, h, Or.inr (by rw [if_pos (show nI 8 = 8 from rfl)])⟩
theorem dropB {n t d : Nat} {M : Mm} (h : BI n t d M) {i : Nat} (hi : i < d) : ∃ M', fX10_dropDirection M (nI i) = some (nI (d - 1), M') ∧ BI n t (d - 1) M' := by
  obtain ⟨hJ, hH, hb, o1, o2, o5⟩ := h
  obtain ⟨M1, f1, l1, H1⟩ := push_then hJ hH
  obtain ⟨⟨h0, n1, n2, n3, n4, n5⟩, hs', hb', ht', hd'⟩ := id hJ
  have ld := h0.2.2.2.1
  obtain ⟨M2, g2, b1', c1', o1'⟩ := gapX M1 (a := 10) (n := 8) (w := 1) (i := i) (t := d) (by omega) hi (by omega) (by omega)
  obtain ⟨M3, g3, b2', c2', o2'⟩ := gapX M2 (a := 9) (n := 24) (w := 3) (i := i) (t := d) (by omega) hi (by omega) (by omega)
  have s1 : nI d - 1 = nI (d - 1) := pk_sub (b := 1) (by omega)
  have l2 : M1.1 8 0 = nI d := (l1 8 0 (by omega)).trans n3
  have l3 : M2.1 8 0 = nI d := (o1' 8 0 (by omega)).trans l2
  have l4 : M3.1 8 0 = nI d := (o2' 8 0 (by omega)).trans l3
  obtain ⟨M4, e5⟩ : ∃ M4, M4 = stI M3 8 0 (nI (d - 1)) := ⟨_, rfl⟩
  have r4 : ∀ c j, M4.1 c j = if c = 8 ∧ j = 0 then nI (d - 1) else M3.1 c j := fun c j => by rw [e5, stI_rd]
  have S : ∀ c j, c ≠ 8 → c ≠ 9 → c ≠ 10 → M4.1 c j = M1.1 c j := fun c j q2 q3 q4 => by rw [r4, if_neg (by omega), o2' c j q3, o1' c j q4]
  have S' : ∀ c j, c < 14 → c ≠ 8 → c ≠ 9 → c ≠ 10 → M4.1 c j = M.1 c j := fun c j q1 q2 q3 q4 => (S c j q2 q3 q4).trans (l1 c j q1)
  have e115 : M4.1 11 5 = -1 := (S' 11 5 (by omega) (by omega) (by omega) (by omega)).trans o5
  have g5 : fX4_forgetDirection M4 (nI i) = some M4 := by
    unfold fX4_forgetDirection
    rw [e115, if_neg (fun w => m1_ne (l := i) (by omega) w.symm), if_pos]
    rw [Int32.le_iff_toInt_le, tin (by omega), show (-1 : Int32).toInt = -1 by decide]; omega
  refine ⟨M4, ?_, ⟨⟨⟨h0.1, h0.2.1, h0.2.2.1, by omega, h0.2.2.2.2⟩, (S' 1 0 (by omega) (by omega) (by omega) (by omega)).trans n1, (S' 2 0 (by omega) (by omega) (by omega) (by omega)).trans n2, ?_, (S' 11 1 (by omega) (by omega) (by omega) (by omega)).trans n4, (S' 11 6 (by omega) (by omega) (by omega) (by omega)).trans n5⟩, ⟨?_, ?_, ?_, Or.inl e115⟩, hb'.c (fun v _ => S' 6 v (by omega) (by omega) (by omega) (by omega)) (fun v _ => S' 7 v (by omega) (by omega) (by omega) (by omega)) (fun v _ _ => S' 12 v (by omega) (by omega) (by omega) (by omega)), ht'.c (fun j => S' 3 j (by omega) (by omega) (by omega) (by omega)) (fun j => S' 4 j (by omega) (by omega) (by omega) (by omega)), fun u hu => ?_⟩, H1.low (fun c j q => S c j (by omega) (by omega) (by omega)), fun u hu => ?_, (S' 1 1 (by omega) (by omega) (by omega) (by omega)).trans o1, (S' 1 2 (by omega) (by omega) (by omega) (by omega)).trans o2, e115⟩
  · unfold fX10_dropDirection
    rw [if_pos ((le0_iff _).mpr (nneg (by omega))), n3, if_pos (ltn (by omega) (by omega) hi), f1, b1_s]
    unfold fX1_remove
    rw [if_neg (nneg (by omega)), l2, if_pos (ltn (by omega) (by omega) hi), show (1 : Int32) = nI 1 from rfl, g2, b1_s, l3, show (3 : Int32) = nI 3 from rfl, g3, b1_s, l4, show nI d - nI 1 = nI (d - 1) from s1, bd_s, ← e5, b1_s, g5, b1_s, r4, if_pos ⟨rfl, rfl⟩]
  · rw [r4, if_pos ⟨rfl, rfl⟩]
  · rw [S' 1 1 (by omega) (by omega) (by omega) (by omega)]; exact hs'.1
  · rw [S' 1 2 (by omega) (by omega) (by omega) (by omega)]; exact hs'.2.1
  · rw [S' 11 8 (by omega) (by omega) (by omega) (by omega)]; exact hs'.2.2.1
  · have x4 : ∀ j, M4.1 9 j = M3.1 9 j := fun j => by rw [r4, if_neg (by omega)]
    rcases Nat.lt_or_ge u i with w | w
    · have e9 : ∀ j, j < 3 * i → M4.1 9 j = M.1 9 j := fun j q => by rw [x4, c2' j (by omega), o1' 9 j (by omega), l1 9 j (by omega)]
      have z := hd' u (by omega)
      refine ⟨fun v hv => ?_, ?_⟩
      · rw [e9 _ (by omega)]; exact z.1 v hv
      · rw [e9 _ (by omega), e9 _ (by omega), e9 _ (by omega)]; exact z.2
    · have e9 : ∀ v, v < 3 → M4.1 9 (3 * u + v) = M.1 9 (3 * (u + 1) + v) := fun v hv => by
        rw [x4, b2' (3 * u + v) (by omega) (by omega), o1' 9 _ (by omega), l1 9 _ (by omega)]
        exact congrArg (M.1 9) (by omega)
      have z := hd' (u + 1) (by omega)
      refine ⟨fun v hv => ?_, ?_⟩
      · rw [e9 v hv]; exact z.1 v hv
      · rw [show M4.1 9 (3 * u) = M.1 9 (3 * (u + 1)) from e9 0 (by omega), e9 1 (by omega), e9 2 (by omega)]; exact z.2
  · rw [S' 12 u (by omega) (by omega) (by omega) (by omega), S' 6 u (by omega) (by omega) (by omega) (by omega), S' 7 u (by omega) (by omega) (by omega) (by omega)]; exact hb u hu
theorem neg_nI {f : Nat} (h : f ≤ 50) : (-(nI f)).toInt = -(f : Int) := by
  have key : ∀ f, f < 51 → (-(nI f)).toInt = -(f : Int) := by decide +kernel
  exact key f (by omega)
theorem hasVarX {M : Mm} {n v : Nat} (h : M.1 1 0 = nI n) (hn : n ≤ 3) (hv : v < n) : fX6_hasVariable M (nI v) = some 1 := by
  unfold fX6_hasVariable
  rw [h, within_in, show nI n - 1 = nI (n - 1) from pk_sub (b := 1) (by omega), in_n1 (by omega) (by omega), b1_s, gd_t (Or.inr rfl)]
theorem boundB {n t d : Nat} {M : Mm} (h : BI n t d M) {v f : Nat} (hv : v < n) (f5 : 5 ≤ f) (f50 : f ≤ 50) : ∃ M', fX10_bound M (nI v) (-(nI f)) (nI f) = some (1, M') ∧ BI n t d M' ∧ M'.1 6 v = -(nI f) ∧ M'.1 7 v = nI f := by
  obtain ⟨hJ, hH, hb, o1, o2, o5⟩ := h
  obtain ⟨M1, f1, l1, H1⟩ := push_then hJ hH
  obtain ⟨⟨h0, n1, n2, n3, n4, n5⟩, hs', hb', ht', hd'⟩ := id hJ
  have l3 := h0.2.1
  obtain ⟨M2, e2⟩ : ∃ M2, M2 = stI (stI M1 6 v (-(nI f))) 7 v (nI f) := ⟨_, rfl⟩
  have r2 : ∀ c j, M2.1 c j = if c = 7 ∧ j = v then nI f else if c = 6 ∧ j = v then -(nI f) else M1.1 c j := fun c j => by rw [e2, stI_rd, stI_rd]
  have S : ∀ c j, c < 14 → c ≠ 6 → c ≠ 7 → M2.1 c j = M.1 c j := fun c j q1 q2 q3 => by rw [r2, if_neg (by omega), if_neg (by omega)]; exact l1 c j q1
  have e6 : M2.1 6 v = -(nI f) := by rw [r2, if_neg (by omega), if_pos ⟨rfl, rfl⟩]
  have e7 : M2.1 7 v = nI f := by rw [r2, if_pos ⟨rfl, rfl⟩]
  have e6' : ∀ u, u ≠ v → M2.1 6 u = M.1 6 u := fun u q => by rw [r2, if_neg (by omega), if_neg (by omega)]; exact l1 6 u (by omega)
  have e7' : ∀ u, u ≠ v → M2.1 7 u = M.1 7 u := fun u q => by rw [r2, if_neg (by omega), if_neg (by omega)]; exact l1 7 u (by omega)
  have nf := neg_nI f50
  have pf : (nI f).toInt = (f : Int) := tin (by omega)
  have hBI : BI n t d M2 := by
    refine ⟨⟨⟨h0, (S 1 0 (by omega) (by omega) (by omega)).trans n1, (S 2 0 (by omega) (by omega) (by omega)).trans n2, (S 8 0 (by omega) (by omega) (by omega)).trans n3, (S 11 1 (by omega) (by omega) (by omega)).trans n4, (S 11 6 (by omega) (by omega) (by omega)).trans n5⟩, hs'.c (S 1 1 (by omega) (by omega) (by omega)) (S 1 2 (by omega) (by omega) (by omega)) (S 11 8 (by omega) (by omega) (by omega)) (S 11 5 (by omega) (by omega) (by omega)), fun u hu => ?_, ht'.c (fun j => S 3 j (by omega) (by omega) (by omega)) (fun j => S 4 j (by omega) (by omega) (by omega)), hd'.c (fun j => S 9 j (by omega) (by omega) (by omega))⟩, H1.low (fun c j q => by rw [r2, if_neg (by omega), if_neg (by omega)]), fun u hu => ?_, (S 1 1 (by omega) (by omega) (by omega)).trans o1, (S 1 2 (by omega) (by omega) (by omega)).trans o2, (S 11 5 (by omega) (by omega) (by omega)).trans o5⟩
    · by_cases q : u = v
      · subst q
        rw [e6, e7]
        exact ⟨by omega, by omega, fun c => absurd c (by omega)⟩
      · rw [e6' u q, e7' u q, S 12 u (by omega) (by omega) (by omega)]
        exact hb' u hu
    · by_cases q : u = v
      · subst q
        rw [e6, e7, S 12 u (by omega) (by omega) (by omega)]
        exact ⟨(hb u hu).1, by omega, by omega⟩
      · rw [e6' u q, e7' u q, S 12 u (by omega) (by omega) (by omega)]
        exact hb u hu
  refine ⟨M2, ?_, hBI, e6, e7⟩
  have m50 : (-50 : Int32).toInt = -50 := by decide
  have p50 : (50 : Int32).toInt = 50 := by decide
  have i1 : fX11_in (-(nI f)) (-50) 50 = some 1 := by rw [in_any, if_pos (by constructor <;> omega)]
  have i2 : fX11_in (nI f) (-(nI f)) 50 = some 1 := by rw [in_any, if_pos (by constructor <;> omega)]
  unfold fX10_bound
  rw [hasVarX n1 l3 hv, b1_s, i10, within_in, i1, b1_s, i10, i2, b1_s, i10, f1, b1_s, gd_t (inbn (by omega) (by omega)), ixn (by omega), bd_s, bd_s, ← e2, hereP hBI.1 hBI.pa, b1_s, oneIf_z (Or.inr rfl), b1_s]
/-- behind order -/
def BO (n t d : Nat) (M : Mm) : Prop := JJ n t d 2 0 M ∧ HI M ∧ ∀ u, u < 3 → (M.1 6 u).toInt ≤ -5 ∧ 5 ≤ (M.1 7 u).toInt
theorem orderB {n t d : Nat} {M : Mm} (h : BI n t d M) {a b : Nat} (ha : a ≤ 2) (hb : b ≤ 1) : ∃ M', fX10_order M (nI a) (nI b) = some (0, M') ∧ BO n t d M' := by
  obtain ⟨hJ, hH, hb', o1, o2, o5⟩ := h
  obtain ⟨M1, f1, l1, H1⟩ := push_then hJ hH
  obtain ⟨⟨h0, n1, n2, n3, n4, n5⟩, hs', hbd, ht', hd'⟩ := id hJ
  obtain ⟨M2, e2⟩ : ∃ M2, M2 = stI (stI M1 1 1 (nI a)) 1 2 (nI b) := ⟨_, rfl⟩
  have r2 : ∀ c j, M2.1 c j = if c = 1 ∧ j = 2 then nI b else if c = 1 ∧ j = 1 then nI a else M1.1 c j := fun c j => by rw [e2, stI_rd, stI_rd]
  have S : ∀ c j, c < 14 → ¬ (c = 1 ∧ (j = 1 ∨ j = 2)) → M2.1 c j = M.1 c j := fun c j q1 q2 => by rw [r2, if_neg (by omega), if_neg (by omega)]; exact l1 c j q1
  refine ⟨M2, ?_, ⟨⟨h0, (S 1 0 (by omega) (by omega)).trans n1, (S 2 0 (by omega) (by omega)).trans n2, (S 8 0 (by omega) (by omega)).trans n3, (S 11 1 (by omega) (by omega)).trans n4, (S 11 6 (by omega) (by omega)).trans n5⟩, ⟨?_, ?_, ?_, ?_⟩, hbd.c (fun v _ => S 6 v (by omega) (by omega)) (fun v _ => S 7 v (by omega) (by omega)) (fun v _ _ => S 12 v (by omega) (by omega)), ht'.c (fun j => S 3 j (by omega) (by omega)) (fun j => S 4 j (by omega) (by omega)), hd'.c (fun j => S 9 j (by omega) (by omega))⟩, H1.low (fun c j q => by rw [r2, if_neg (by omega), if_neg (by omega)]), fun u hu => ?_⟩
  · unfold fX10_order
    rw [within_in, show (2 : Int32) = nI 2 from rfl, in_n1 ha (by omega), b1_s, i10, show (1 : Int32) = nI 1 from rfl, in_n1 hb (by omega), b1_s, i10, bd_s, f1, b1_s, bd_s, bd_s, ← e2, o1, o2]
    rfl
  · have e : M2.1 1 1 = nI a := by rw [r2, if_neg (by omega), if_pos ⟨rfl, rfl⟩]
    rw [e]
    rcases (show a = 0 ∨ a = 1 ∨ a = 2 by omega) with rfl | rfl | rfl
    · exact Or.inl rfl
    · exact Or.inr (Or.inl rfl)
    · exact Or.inr (Or.inr rfl)
  · have e : M2.1 1 2 = nI b := by rw [r2, if_pos ⟨rfl, rfl⟩]
    rw [e]
    rcases (show b = 0 ∨ b = 1 by omega) with rfl | rfl
    · exact Or.inl rfl
    · exact Or.inr rfl
  · rw [S 11 8 (by omega) (by omega)]; exact hs'.2.2.1
  · rw [S 11 5 (by omega) (by omega)]; exact Or.inl o5
  · rw [S 6 u (by omega) (by omega), S 7 u (by omega) (by omega)]; exact (hb' u hu).2
theorem startB {n t d : Nat} {M : Mm} (h : BO n t d M) {x y w : Int32} (hx : sm 5 x) (hy : sm 5 y) (hw : sm 5 w) (ho : ofn n y w) {s : Nat} (hs : s ≤ 4) : ∃ M', fX10_start M x y w (nI s) = some (1, M') ∧ JJ n t d s 0 M' ∧ HI M' ∧ PA M' ∧ M'.1 11 5 = -1 := by
  obtain ⟨hJ, hH, hb⟩ := h
  obtain ⟨M1, f1, l1, H1⟩ := push_then hJ hH
  obtain ⟨⟨h0, n1, n2, n3, n4, n5⟩, hs', hbd, ht', hd'⟩ := id hJ
  obtain ⟨M2, f2, p2, s2, o2⟩ := beginX M1 x y w (nI (2 ^ s))
  obtain ⟨M3, f3, p3, o3⟩ := forgetX M2
  have S : ∀ c j, c < 14 → c ≠ 10 → c ≠ 11 → c ≠ 12 → M3.1 c j = M.1 c j := fun c j q1 q2 q3 q4 => by rw [o3 c j q2, o2 c j (by omega), l1 c j q1]
  have L : ∀ j, M3.1 11 j = M2.1 11 j := fun j => o3 11 j (by omega)
  have pl : ∀ v, v < 3 → M3.1 12 v = if v = 0 then x else if v = 1 then y else w := fun v hv => by
    rw [o3 12 v (by omega)]
    rcases (show v = 0 ∨ v = 1 ∨ v = 2 by omega) with rfl | rfl | rfl
    · exact p2.1
    · exact p2.2.1
    · exact p2.2.2
  have J3 : JJ n t d s 0 M3 := by
    refine ⟨⟨⟨h0.1, h0.2.1, h0.2.2.1, h0.2.2.2.1, hs, by omega⟩, (S 1 0 (by omega) (by omega) (by omega) (by omega)).trans n1, (S 2 0 (by omega) (by omega) (by omega) (by omega)).trans n2, (S 8 0 (by omega) (by omega) (by omega) (by omega)).trans n3, (L 1).trans s2.1, (L 6).trans s2.2.2.2.2.2.1⟩, ⟨?_, ?_, ?_, ?_⟩, fun v hv => ?_, ht'.c (fun j => S 3 j (by omega) (by omega) (by omega) (by omega)) (fun j => S 4 j (by omega) (by omega) (by omega) (by omega)), hd'.c (fun j => S 9 j (by omega) (by omega) (by omega) (by omega))⟩
    · rw [S 1 1 (by omega) (by omega) (by omega) (by omega)]; exact hs'.1
    · rw [S 1 2 (by omega) (by omega) (by omega) (by omega)]; exact hs'.2.1
    · rw [L 8, s2.2.2.2.2.2.2]; exact Or.inl rfl
    · rw [L 5, s2.2.2.2.2.1]; exact Or.inl rfl
    · rw [S 6 v (by omega) (by omega) (by omega) (by omega), S 7 v (by omega) (by omega) (by omega) (by omega)]
      have q := hbd v hv
      refine ⟨q.1, q.2.1, fun c => ⟨(q.2.2 c).1, (q.2.2 c).2.1, ?_⟩⟩
      rw [pl v hv]
      have := h0.1
      rcases (show v = 1 ∨ v = 2 by omega) with rfl | rfl
      · exact ho.1 c
      · exact ho.2 c
  have P3 : PA M3 := fun v hv => by
    rw [S 6 v (by omega) (by omega) (by omega) (by omega), S 7 v (by omega) (by omega) (by omega) (by omega), pl v hv]
    have q := hb v hv
    unfold sm at hx hy hw
    rcases (show v = 0 ∨ v = 1 ∨ v = 2 by omega) with rfl | rfl | rfl
    · show _ ≤ x.toInt ∧ x.toInt ≤ _; omega
    · show _ ≤ y.toInt ∧ y.toInt ≤ _; omega
    · show _ ≤ w.toInt ∧ w.toInt ≤ _; omega
  refine ⟨M3, ?_, J3, H1.low (fun c j q => by rw [o3 c j (by omega), o2 c j (by omega)]), P3, by rw [L 5, s2.2.2.2.2.1]⟩
  have m5 : ∀ z : Int32, sm 5 z → sm 50 z := fun z q => q.mono (by omega)
  unfold fX10_start
  rw [fitX, n1, if_pos ⟨rg50 (m5 x hx), rg50 (m5 y hy), rg50 (m5 w hw), ofn_ofv h0.2.1 ho⟩, b1_s, i10, within_in, show (4 : Int32) = nI 4 from rfl, in_n1 hs (by omega), b1_s, i10, f1, b1_s, shl1 hs, f2, b1_s, f3, b1_s, hereP J3 P3, b1_s, oneIf_z (Or.inr rfl), b1_s]
