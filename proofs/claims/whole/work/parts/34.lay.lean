/-! ===== the row of trials, the reference's side ===== -/
theorem bits : ∀ m, m < 256 → ∀ i, i < 8 → ((((nI m >>> (nI i &&& 31)) &&& 1 = 0) ↔ m.testBit i = false) ∧ (nI m ||| (1 <<< (nI i &&& 31))) = nI (m ||| 2 ^ i)) := by decide +kernel
/-- the reference's row, as far as a poll reads it -/
def MX (t d : Nat) (M : Mm) : Prop := (t ≤ 10 ∧ d ≤ 8) ∧ M.1 96 1 = nI t ∧ M.1 96 2 = nI d ∧ ∀ i, i < t → tOK (M.1 96) i
theorem trialM {M : Mm} {i v : Nat} (e : Nat) (hi : i < 8) (hv : v < 3) : fX11_trialAt M (nI i) (nI v) (nI (2 ^ e)) = some (trz (M.1 96) e i v) := by
  unfold fX11_trialAt
  rw [show (18 : Int32) + nI v = nI (18 + v) from nI_add 18 _, gd_t (inbn (by omega) (by omega)), stepM hi (by omega), b1_s, ixn (by omega)]
  rfl
theorem tvM {t d : Nat} {M : Mm} (h : MX t d M) {i : Nat} (e : Nat) (hi : i < 8) (s : Bool) : fX11_trialValue M (nI i) (nI (2 ^ e)) (if s then 1 else 0) = some (vs (M.1 96) s (trz (M.1 96) e i 0) (trz (M.1 96) e i 1) (trz (M.1 96) e i 2) t) := by
  have t0 : fX11_trialAt M (nI i) 0 (nI (2 ^ e)) = _ := trialM e hi (v := 0) (by omega)
  have t1 : fX11_trialAt M (nI i) 1 (nI (2 ^ e)) = _ := trialM e hi (v := 1) (by omega)
  have t2 : fX11_trialAt M (nI i) 2 (nI (2 ^ e)) = _ := trialM e hi (v := 2) (by omega)
  unfold fX11_trialValue
  rw [t0, b1_s, t1, b1_s, t2, b1_s, valM h.2.2.2 h.2.1 h.1.1 s, b1_s]
theorem okM {M : Mm} {i : Nat} (e : Nat) (hi : i < 8) : fX11_isTrialAllowed M (nI i) (nI (2 ^ e)) = some (if okz (M.1 96) e i then 1 else 0) := by
  have t0 : fX11_trialAt M (nI i) 0 (nI (2 ^ e)) = _ := trialM e hi (v := 0) (by omega)
  have t1 : fX11_trialAt M (nI i) 1 (nI (2 ^ e)) = _ := trialM e hi (v := 1) (by omega)
  have t2 : fX11_trialAt M (nI i) 2 (nI (2 ^ e)) = _ := trialM e hi (v := 2) (by omega)
  unfold fX11_isTrialAllowed
  rw [t0, b1_s, t1, b1_s, t2, b1_s, allowM, b1_s, gd_t (bit_g _)]
theorem aheadM {t d : Nat} {M : Mm} (h : MX t d M) {x b : Nat} (e : Nat) (hx : x < 8) (hb : b < 8) (hne : x ≠ b) : fX11_isAhead M (nI x) (nI b) (nI (2 ^ e)) = some (if (rkz (M.1 96) e t x).toInt < (rkz (M.1 96) e t b).toInt then 1 else 0) := by
  unfold fX11_isAhead rkz
  by_cases e2 : M.1 96 4 = 2
  · have q1 : ∀ i, i < 8 → fX11_trialValue M (nI i) (nI (2 ^ e)) 1 = _ := fun i hi => tvM h e hi true
    have n1' : ¬ M.1 96 4 = 1 := by rw [e2]; decide
    rw [if_pos e2, q1 x hx, b1_s, q1 b hb, b1_s, if_neg n1', if_pos e2, if_neg n1', if_pos e2]
    by_cases hc : 0 ≤ lg_cmp (vs (M.1 96) true (trz (M.1 96) e x 0) (trz (M.1 96) e x 1) (trz (M.1 96) e x 2) t) (vs (M.1 96) true (trz (M.1 96) e b 0) (trz (M.1 96) e b 1) (trz (M.1 96) e b 2) t)
    · rw [if_pos hc]
      have := Int64.le_iff_toInt_le.mp ((lg_cmp_ge _ _).mp hc)
      rw [if_neg (by omega)]
    · rw [if_neg hc]
      have : ¬ _ := fun q => hc ((lg_cmp_ge _ _).mpr (Int64.le_iff_toInt_le.mpr q))
      rw [if_pos (by omega)]
  · rw [if_neg e2]
    by_cases e1 : M.1 96 4 = 1
    · rw [if_pos e1, if_pos e1, if_pos e1]
      by_cases w : nI x = M.1 96 9
      · rw [if_pos w, if_pos w]
        have : ¬ nI b = M.1 96 9 := fun q => hne ((neq (by omega) (by omega)).mp (w.trans q.symm))
        rw [if_neg this, if_pos (by decide)]
      · rw [if_neg w, if_neg w]
        by_cases w2 : nI b = M.1 96 9
        · rw [if_pos w2, if_neg (by decide)]
        · rw [if_neg w2, if_neg (by decide)]
    · rw [if_neg e1, if_neg e1, if_neg e1, if_neg e2, if_neg e2, if_neg (by decide)]
/-- the numbers that a mask holds -/
def PB (g : Nat → Nat) (mk k : Nat) : Prop := mk < 256 ∧ ∀ i, i < 8 → (mk.testBit i = true ↔ ∃ a, a < k ∧ g a = i)
theorem PB.put {g : Nat → Nat} {mk k : Nat} (h : PB g mk k) (hk : g k < 8) : PB g (mk ||| 2 ^ g k) (k + 1) := by
  refine ⟨Nat.or_lt_two_pow (n := 8) h.1 (Nat.pow_lt_pow_right (by omega) hk), fun i hi => ?_⟩
  rw [Nat.testBit_or, Nat.testBit_two_pow, Bool.or_eq_true, h.2 i hi, decide_eq_true_iff]
  constructor
  · rintro (⟨a, ha, w⟩ | w)
    · exact ⟨a, by omega, w⟩
    · exact ⟨k, by omega, w⟩
  · rintro ⟨a, ha, w⟩
    rcases Nat.lt_or_ge a k with q | q
    · exact Or.inl ⟨a, q, w⟩
    · exact Or.inr (by rw [← w, show a = k by omega])
theorem pickM {t d : Nat} {M : Mm} (h : MX t d M) (e : Nat) {m k mk : Nat} {g : Nat → Nat} (hL : Lst (okz (M.1 96) e) (rkz (M.1 96) e t) d m g) (hk : k ≤ m) (hb : PB g mk k) : ∃ r, itr (fX11_layRow_L34 M (nI (2 ^ e)) (nI mk)) 1000 (-1, 0) = some r ∧ r = if k < m then nI (g k) else -1 := by
  obtain ⟨⟨lt, ld⟩, m1, m2, m3⟩ := h
  have h : MX t d M := ⟨⟨lt, ld⟩, m1, m2, m3⟩
  obtain ⟨L1, L2, L3, L4⟩ := hL
  obtain ⟨z, ez⟩ : ∃ z, z = M.1 96 := ⟨_, rfl⟩
  obtain ⟨rk, er⟩ : ∃ rk, rk = rkz (M.1 96) e t := ⟨_, rfl⟩
  obtain ⟨ok, eo⟩ : ∃ ok : Nat → Prop, ok = okz (M.1 96) e := ⟨_, rfl⟩
  rw [← er] at L2
  rw [← eo] at L3 L4
  have fin : ∀ r, ((r = -1 ∧ ∀ x, x < d → ok x → ∃ a, a < k ∧ g a = x) ∨ ∃ b, b < d ∧ r = nI b ∧ ok b ∧ (¬ ∃ a, a < k ∧ g a = b) ∧ ∀ x, x < d → ok x → (¬ ∃ a, a < k ∧ g a = x) → x = b ∨ klt rk b x) → r = if k < m then nI (g k) else -1 := by
    have np : ∀ a, k ≤ a → a < m → ¬ ∃ a', a' < k ∧ g a' = g a := by
      rintro a w1 w2 ⟨a', w3, w4⟩
      have := L2 a' a (by omega) w2
      rw [w4] at this
      unfold klt at this; omega
    rintro r (⟨rfl, w⟩ | ⟨b, hb', rfl, w1, w2, w3⟩)
    · rw [if_neg]
      intro q
      exact np k (by omega) q (w _ (L3 k q).1 (L3 k q).2)
    · obtain ⟨a, ha, rfl⟩ := L4 b hb' w1
      have ka : k ≤ a := by
        rcases Nat.lt_or_ge a k with q | q
        · exact absurd ⟨a, q, rfl⟩ w2
        · exact q
      rw [if_pos (by omega)]
      rcases w3 (g k) (L3 k (by omega)).1 (L3 k (by omega)).2 (np k (by omega) (by omega)) with q | q
      · rw [q]
      · rcases Nat.lt_or_ge k a with q2 | q2
        · have := L2 k a q2 ha
          unfold klt at this q; omega
        · rw [show a = k by omega]
  obtain ⟨r, f, q⟩ := itr_0 (body := fX11_layRow_L34 M (nI (2 ^ e)) (nI mk)) (s := ((-1 : Int32), (0 : Int32))) (fun i q => q.2 = nI i ∧ ((q.1 = -1 ∧ ∀ x, x < i → ok x → ∃ a, a < k ∧ g a = x) ∨ ∃ b, b < i ∧ q.1 = nI b ∧ ok b ∧ (¬ ∃ a, a < k ∧ g a = b) ∧ ∀ x, x < i → ok x → (¬ ∃ a, a < k ∧ g a = x) → x = b ∨ klt rk b x)) (fun r => r = if k < m then nI (g k) else -1) d (by omega) ⟨rfl, Or.inl ⟨rfl, fun x hx => absurd hx (by omega)⟩⟩ (by
    rintro i ⟨x7, x8⟩ hi ⟨rfl, q⟩
    rcases Nat.lt_or_ge i d with hl | hl
    · left
      -- the next choice
      have body : ∀ x7', ((ok i ∧ (¬ ∃ a, a < k ∧ g a = i) → (x7 < 0 → x7' = nI i) ∧ ∀ b, b < i → x7 = nI b → ¬ x7 < 0 → x7' = if (rk i).toInt < (rk b).toInt then nI i else nI b) ∧ (¬ (ok i ∧ (¬ ∃ a, a < k ∧ g a = i)) → x7' = x7)) → (x7 < 0 ∨ ∃ b, b < i ∧ x7 = nI b) → fX11_layRow_L34 M (nI (2 ^ e)) (nI mk) (x7, nI i) = some (.inl (x7', nI (i + 1))) := by
        intro x7' hx hb7
        have bt := (bits mk hb.1 i (by omega)).1
        unfold fX11_layRow_L34 u2
        dsimp only
        rw [m2, if_neg (ngen (by omega) (by omega) hl), nI_1]
        by_cases c1 : ∃ a, a < k ∧ g a = i
        · have : ¬ (nI mk >>> (nI i &&& 31)) &&& 1 = 0 := fun q => by
            have q1 := bt.mp q
            rw [(hb.2 i (by omega)).mpr c1] at q1
            exact absurd q1 (by decide)
          have hx := hx.2 (fun q => q.2 c1)
          rw [bd_s, bd_s, if_neg this, hx]
          dsimp only
          rw [bd_s, bd_s, i00]
          dsimp only
          rw [bd_s]
        · have : (nI mk >>> (nI i &&& 31)) &&& 1 = 0 := bt.mpr (by
            cases w : mk.testBit i with
            | false => rfl
            | true => exact absurd ((hb.2 i (by omega)).mp w) c1)
          rw [bd_s, bd_s, if_pos this, okM e (by omega), b1_s]
          by_cases c2 : ok i
          · rw [if_pos (show okz (M.1 96) e i by rw [← eo]; exact c2), i10]
            dsimp only
            have hx := hx.1 ⟨c2, c1⟩
            rw [bd_s, bd_s, i10, bd_s]
            by_cases c3 : x7 < 0
            · rw [if_pos c3, hx.1 c3]
              dsimp only
              rw [bd_s]
            · rw [if_neg c3]
              obtain ⟨b, hb1, hb2⟩ := hb7.resolve_left c3
              have hx := hx.2 b hb1 hb2 c3
              rw [hb2, aheadM h e (by omega) (by omega) (by omega), b1_s, ← er, hx]
              by_cases c4 : (rk i).toInt < (rk b).toInt
              · rw [if_pos c4, if_pos c4, i10]
                dsimp only
                rw [bd_s]
              · rw [if_neg c4, if_neg c4, i00]
                dsimp only
                rw [bd_s]
          · rw [if_neg (show ¬ okz (M.1 96) e i by rw [← eo]; exact c2), i00]
            dsimp only
            have hx := hx.2 (fun q => c2 q.1)
            rw [bd_s, bd_s, i00, hx]
            dsimp only
            rw [bd_s]
      have neg1 : (-1 : Int32) < 0 := by decide
      by_cases hP : ok i ∧ (¬ ∃ a, a < k ∧ g a = i)
      · rcases q with ⟨w1, w2⟩ | ⟨b, w1, w2, w3, w4, w5⟩
        · have w1 : x7 = -1 := w1
          refine ⟨(nI i, nI (i + 1)), body _ ⟨fun _ => ⟨fun _ => rfl, fun _ _ _ nn => absurd (by rw [w1]; exact neg1) nn⟩, fun q => absurd hP q⟩ (Or.inl (by rw [w1]; exact neg1)), hl, rfl, Or.inr ⟨i, by omega, rfl, hP.1, hP.2, fun x hx hk' hn => ?_⟩⟩
          rcases Nat.lt_or_ge x i with q | q
          · exact absurd (w2 x q hk') hn
          · exact Or.inl (by omega)
        · have w2 : x7 = nI b := w2
          have nn : ¬ x7 < 0 := by rw [w2]; exact fun q => by have := Int32.lt_iff_toInt_lt.mp q; rw [tin (by omega), show (0 : Int32).toInt = 0 by decide] at this; omega
          by_cases c4 : (rk i).toInt < (rk b).toInt
          · refine ⟨(nI i, nI (i + 1)), body _ ⟨fun _ => ⟨fun q => absurd q nn, fun b' hb1 hb2 _ => by obtain rfl : b' = b := (neq (by omega) (by omega)).mp (hb2.symm.trans w2); rw [if_pos c4]⟩, fun q => absurd hP q⟩ (Or.inr ⟨b, w1, w2⟩), hl, rfl, Or.inr ⟨i, by omega, rfl, hP.1, hP.2, fun x hx hk' hn => ?_⟩⟩
            rcases Nat.lt_or_ge x i with q | q
            · right
              rcases w5 x q hk' hn with rfl | w
              · exact Or.inl c4
              · unfold klt at w ⊢; omega
            · exact Or.inl (by omega)
          · refine ⟨(nI b, nI (i + 1)), body _ ⟨fun _ => ⟨fun q => absurd q nn, fun b' hb1 hb2 _ => by obtain rfl : b' = b := (neq (by omega) (by omega)).mp (hb2.symm.trans w2); rw [if_neg c4]⟩, fun q => absurd hP q⟩ (Or.inr ⟨b, w1, w2⟩), hl, rfl, Or.inr ⟨b, by omega, rfl, w3, w4, fun x hx hk' hn => ?_⟩⟩
            rcases Nat.lt_or_ge x i with q | q
            · exact w5 x q hk' hn
            · right
              obtain rfl : x = i := by omega
              unfold klt; omega
      · have same : ∀ x, x < i + 1 → ok x → (¬ ∃ a, a < k ∧ g a = x) → x < i := fun x hx hk' hn => by
          rcases Nat.lt_or_ge x i with q | q
          · exact q
          · obtain rfl : x = i := by omega
            exact absurd ⟨hk', hn⟩ hP
        have h7 : x7 < 0 ∨ ∃ b, b < i ∧ x7 = nI b := by
          rcases q with ⟨w1, w2⟩ | ⟨b, w1, w2, w3, w4, w5⟩
          · exact Or.inl (by rw [show x7 = -1 from w1]; exact neg1)
          · exact Or.inr ⟨b, w1, w2⟩
        refine ⟨(x7, nI (i + 1)), body _ ⟨fun q => absurd q hP, fun _ => rfl⟩ h7, hl, rfl, ?_⟩
        rcases q with ⟨w1, w2⟩ | ⟨b, w1, w2, w3, w4, w5⟩
        · refine Or.inl ⟨w1, fun x hx hk' => ?_⟩
          by_cases c : ∃ a, a < k ∧ g a = x
          · exact c
          · exact w2 x (same x hx hk' c) hk'
        · exact Or.inr ⟨b, by omega, w2, w3, w4, fun x hx hk' hn => w5 x (same x hx hk' hn) hk' hn⟩
    · right
      obtain rfl : i = d := by omega
      refine ⟨x7, ?_, fin x7 q⟩
      unfold fX11_layRow_L34 u2
      dsimp only
      rw [m2, if_pos (gen (by omega) (by omega) (by omega))])
  exact ⟨r, f, q⟩
/-- the reference's row of trials -/
def RowM (M : Mm) (m : Nat) (g : Nat → Nat) : Prop := M.1 95 8 = nI m ∧ ∀ j, j < m → M.1 100 j = nI (g j)
theorem MX.cong {t d : Nat} {M M' : Mm} (h : MX t d M) (hz : M'.1 96 = M.1 96) : MX t d M' := by
  unfold MX at h ⊢
  rw [hz]; exact h
theorem layM {t d : Nat} {M : Mm} (h : MX t d M) {e : Nat} (he : e ≤ 4) (h3 : M.1 96 3 = nI e) {m : Nat} {g : Nat → Nat} (hL : Lst (okz (M.1 96) e) (rkz (M.1 96) e t) d m g) : ∃ M', fX11_layRow M = some M' ∧ RowM M' m g ∧ ∀ c j, c ≠ 100 → ¬ (c = 95 ∧ j = 8) → M'.1 c j = M.1 c j := by
  unfold fX11_layRow
  rw [h3, shl1 he, bd_s]
  refine bd_st fun M2 r2 _ => ?_
  have md : m ≤ d := hL.1
  obtain ⟨M3, f3, a1, a2⟩ := itr_0 (body := fX11_layRow_L18 (nI (2 ^ e))) (s := ((0 : Int32), (0 : Int32), M2)) (fun i q => (∃ mk, q.1 = nI mk ∧ PB g mk (min i m)) ∧ q.2.1 = nI i ∧ RowM q.2.2 (min i m) g ∧ ∀ c j, c ≠ 100 → ¬ (c = 95 ∧ j = 8) → q.2.2.1 c j = M.1 c j) (fun M' => RowM M' m g ∧ ∀ c j, c ≠ 100 → ¬ (c = 95 ∧ j = 8) → M'.1 c j = M.1 c j) d (by have := h.1.2; omega) ⟨⟨0, rfl, by omega, fun i hi => by rw [Nat.zero_testBit]; exact ⟨fun q => absurd q (by decide), fun ⟨a, ha, _⟩ => absurd ha (by omega)⟩⟩, rfl, ⟨by show M2.1 95 8 = _; rw [r2, if_pos ⟨rfl, rfl⟩, Nat.zero_min]; rfl, fun j hj => absurd hj (by omega)⟩, fun c j w1 w2 => by show M2.1 c j = _; rw [r2, if_neg w2]⟩ (by
    rintro i ⟨x3, x4, M'⟩ hi ⟨⟨mk, w1, w2⟩, w3, w4, w5⟩
    obtain rfl : x3 = nI mk := w1
    obtain rfl : x4 = nI i := w3
    have ez : M'.1 96 = M.1 96 := by funext j; exact w5 96 j (by omega) (by omega)
    have hM : MX t d M' := h.cong ez
    have ld := h.1.2
    rcases Nat.lt_or_ge i d with hl | hl
    · left
      obtain ⟨r, f, er⟩ := pickM hM e (m := m) (k := min i m) (mk := mk) (g := g) (by rw [ez]; exact hL) (by omega) w2
      rcases Nat.lt_or_ge i m with hm | hm
      · rw [if_pos (by omega)] at er
        rw [show min i m = i by omega] at w2 w4 er
        have gl : g i < d := (hL.2.2.1 i hm).1
        obtain ⟨M4, e4⟩ : ∃ M4, M4 = stI (stI M' 100 i (nI (g i))) 95 8 (nI (i + 1)) := ⟨_, rfl⟩
        have r4 : ∀ c j, M4.1 c j = if c = 95 ∧ j = 8 then nI (i + 1) else if c = 100 ∧ j = i then nI (g i) else M'.1 c j := fun c j => by rw [e4, stI_rd, stI_rd]
        refine ⟨(nI (mk ||| 2 ^ g i), nI (i + 1), M4), ?_, hl, ⟨mk ||| 2 ^ g i, rfl, by rw [show min (i + 1) m = i + 1 by omega]; exact w2.put (by omega)⟩, rfl, ⟨?_, fun j hj => ?_⟩, fun c j c1 c2 => ?_⟩
        · unfold fX11_layRow_L18 u3
          dsimp only
          have m2 : M'.1 96 2 = nI d := hM.2.2.1
          have nn : ¬ nI (g i) < 0 := fun q => by have := Int32.lt_iff_toInt_lt.mp q; rw [tin (by omega), show (0 : Int32).toInt = 0 by decide] at this; omega
          have w41 : M'.1 95 8 = nI i := w4.1
          rw [m2, if_neg (ngen (by omega) (by omega) hl), f, b1_s, bd_s, er, if_neg nn, (bits mk w2.1 (g i) (by omega)).2, bd_s, w41, gd_t (inbn (by omega) (by omega)), ixn (by omega), bd_s, bd_s, show (stI M' 100 i (nI (g i))).1 95 8 = nI i by rw [stI_rd, if_neg (by omega)]; exact w41, nI_1, ← e4]
          dsimp only
          rw [bd_s]
        · show M4.1 95 8 = _
          rw [r4, if_pos ⟨rfl, rfl⟩]; exact congrArg nI (by omega)
        · show M4.1 100 j = _
          rw [r4, if_neg (by omega)]
          by_cases q : j = i
          · rw [if_pos ⟨rfl, q⟩, q]
          · rw [if_neg (by omega)]; exact w4.2 j (by omega)
        · show M4.1 c j = _
          rw [r4, if_neg c2, if_neg (by omega)]; exact w5 c j c1 c2
      · rw [if_neg (by omega)] at er
        refine ⟨(nI mk, nI (i + 1), M'), ?_, hl, ⟨mk, rfl, by rw [show min (i + 1) m = min i m by omega]; exact w2⟩, rfl, by rw [show min (i + 1) m = min i m by omega]; exact w4, w5⟩
        unfold fX11_layRow_L18 u3
        dsimp only
        have m2 : M'.1 96 2 = nI d := hM.2.2.1
        rw [m2, if_neg (ngen (by omega) (by omega) hl), f, b1_s, bd_s, er, if_pos (by decide)]
        dsimp only
        rw [nI_1, bd_s]
    · right
      obtain rfl : i = d := by omega
      refine ⟨M', ?_, by rw [show min i m = m by omega] at w4; exact w4, w5⟩
      unfold fX11_layRow_L18 u3
      dsimp only
      have m2 : M'.1 96 2 = nI i := hM.2.2.1
      rw [m2, if_pos (gen (by omega) (by omega) (by omega))])
  exact ⟨M3, by rw [f3, b1_s], a1, a2⟩
