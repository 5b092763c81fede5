/-! ===== which places, values ===== -/
abbrev rg (a b x : Int32) : Prop := a.toInt ≤ x.toInt ∧ x.toInt ≤ b.toInt
abbrev ofv (n y w : Int32) : Prop := (1 < n ∨ y = 0) ∧ (2 < n ∨ w = 0)
theorem ofvM (M : Mm) (x y w : Int32) : fX11_areOfVariables M x y w = some (if ofv (M.1 96 0) y w then 1 else 0) := by
  unfold fX11_areOfVariables
  rw [bd_s]
  by_cases h1 : 1 < M.1 96 0
  · rw [if_pos h1]
    by_cases h2 : 2 < M.1 96 0
    · rw [if_pos h2, if_pos ⟨Or.inl h1, Or.inl h2⟩]
    · rw [if_neg h2]
      by_cases h3 : w = 0
      · rw [if_pos h3, if_pos ⟨Or.inl h1, Or.inr h3⟩]
      · rw [if_neg h3, if_neg (fun q => q.2.elim h2 h3)]
  · rw [if_neg h1]
    by_cases h0 : y = 0
    · rw [if_pos h0]
      by_cases h2 : 2 < M.1 96 0
      · rw [if_pos h2, if_pos ⟨Or.inr h0, Or.inl h2⟩]
      · rw [if_neg h2]
        by_cases h3 : w = 0
        · rw [if_pos h3, if_pos ⟨Or.inr h0, Or.inr h3⟩]
        · rw [if_neg h3, if_neg (fun q => q.2.elim h2 h3)]
    · rw [if_neg h0, if_neg (fun q => q.1.elim h1 h0)]
theorem fitX (M : Mm) (x y w a b : Int32) : fX6_fit M x y w a b = some (if rg a b x ∧ rg a b y ∧ rg a b w ∧ ofv (M.1 1 0) y w then 1 else 0) := by
  unfold fX6_fit
  rw [within_in, in_any, b1_s]
  by_cases hx : rg a b x
  · rw [if_pos hx, i10, in_any, b1_s]
    by_cases hy : rg a b y
    · rw [if_pos hy, i10, in_any, b1_s]
      by_cases hw : rg a b w
      · rw [if_pos hw, i10, bd_s]
        by_cases h1 : 1 < M.1 1 0
        · rw [if_pos h1]
          by_cases h2 : 2 < M.1 1 0
          · rw [if_pos h2, if_pos ⟨hx, hy, hw, Or.inl h1, Or.inl h2⟩]
          · rw [if_neg h2]
            by_cases h3 : w = 0
            · rw [if_pos h3, if_pos ⟨hx, hy, hw, Or.inl h1, Or.inr h3⟩]
            · rw [if_neg h3, if_neg (fun q => q.2.2.2.2.elim h2 h3)]
        · rw [if_neg h1]
          by_cases h0 : y = 0
          · rw [if_pos h0]
            by_cases h2 : 2 < M.1 1 0
            · rw [if_pos h2, if_pos ⟨hx, hy, hw, Or.inr h0, Or.inl h2⟩]
            · rw [if_neg h2]
              by_cases h3 : w = 0
              · rw [if_pos h3, if_pos ⟨hx, hy, hw, Or.inr h0, Or.inr h3⟩]
              · rw [if_neg h3, if_neg (fun q => q.2.2.2.2.elim h2 h3)]
          · rw [if_neg h0, if_neg (fun q => q.2.2.2.1.elim h1 h0)]
      · rw [if_neg hw, i00, if_neg (fun q => hw q.2.2.1)]
    · rw [if_neg hy, i00, if_neg (fun q => hy q.2.1)]
  · rw [if_neg hx, i00, if_neg (fun q => hx q.1)]
theorem arePlaceM (M : Mm) (x y w : Int32) : fX11_arePlace M x y w = some (if rg (-50) 50 x ∧ rg (-50) 50 y ∧ rg (-50) 50 w ∧ ofv (M.1 96 0) y w then 1 else 0) := by
  unfold fX11_arePlace
  rw [in_any, b1_s]
  by_cases hx : rg (-50) 50 x
  · rw [if_pos hx, i10, in_any, b1_s]
    by_cases hy : rg (-50) 50 y
    · rw [if_pos hy, i10, in_any, b1_s]
      by_cases hw : rg (-50) 50 w
      · rw [if_pos hw, i10, ofvM, b1_s]
        by_cases h1 : ofv (M.1 96 0) y w
        · rw [if_pos h1, i10, if_pos ⟨hx, hy, hw, h1⟩]
        · rw [if_neg h1, i00, if_neg (fun q => h1 q.2.2.2)]
      · rw [if_neg hw, i00, if_neg (fun q => hw q.2.2.1)]
    · rw [if_neg hy, i00, if_neg (fun q => hy q.2.1)]
  · rw [if_neg hx, i00, if_neg (fun q => hx q.1)]
def pw (x : Int32) : Nat → Int64
  | 0 => 1
  | p + 1 => pw x p * x.toInt64
theorem power_raised : fX11_power = fX7_raised := rfl
theorem raised (x : Int32) {p : Nat} (hp : p < 999) : fX7_raised x (nI p) = some (pw x p) := by
  unfold fX7_raised
  obtain ⟨r, e, hr⟩ := itr_0 (body := fX7_raised_L5 (nI p) x) (s := ((1 : Int64), (0 : Int32))) (fun i q => q = (pw x i, nI i)) (fun r => r = pw x p) p (by omega) rfl (fun i s hi hs => by
    subst hs
    unfold fX7_raised_L5 u2
    rcases Nat.lt_or_ge i p with hl | hl
    · left
      refine ⟨(pw x (i + 1), nI (i + 1)), ?_, hl, rfl⟩
      show (if nI p ≤ nI i then _ else _) = _
      rw [if_neg (ngen (t := p) (by omega) (by omega) hl), bd_s, bd_s, nI_1]; rfl
    · right
      refine ⟨pw x i, if_pos (show nI p ≤ nI i from gen (by omega) (by omega) hl), ?_⟩
      rw [show i = p by omega])
  rw [e, b1_s, hr]
def tv (z : Nat → Int32) (x y w : Int32) (i : Nat) : Int64 := (z (21 + 4 * i)).toInt64 * pw x (ix (z (21 + 4 * i + 1))) * pw y (ix (z (21 + 4 * i + 2))) * pw w (ix (z (21 + 4 * i + 3)))
def vs (z : Nat → Int32) (s : Bool) (x y w : Int32) : Nat → Int64
  | 0 => 0
  | i + 1 => vs z s x y w i + (if s = true ∧ 2 < ix (z (21 + 4 * i + 1)) + ix (z (21 + 4 * i + 2)) + ix (z (21 + 4 * i + 3)) then 0 else tv z x y w i)
def lim (s : Bool) : Int32 := if s then 2 else 4
theorem sumX {M : Mm} {z : Nat → Int32} {t : Nat} (ht : SRt t (blk M 1) z) (h : M.1 2 0 = nI t) (lt : t ≤ 10) (s : Bool) (x y w : Int32) : fX7_sumAt M x y w (lim s) = some (vs z s x y w t) := by
  unfold fX7_sumAt
  obtain ⟨r, e, hr⟩ := itr_0 (body := fX7_sumAt_L6 M (lim s) x y w) (s := ((0 : Int64), (0 : Int32))) (fun i q => q = (vs z s x y w i, nI i)) (fun r => r = vs z s x y w t) t (by omega) rfl (fun i q hi hq => by
    subst hq
    unfold fX7_sumAt_L6 u2
    dsimp only
    rcases Nat.lt_or_ge i t with hl | hl
    · left
      obtain ⟨q1, ⟨q2, q3, q4⟩, -, p, q, r, hp, e1, e2, e3⟩ := ht i hl
      have q1 : M.1 3 i = z (21 + 4 * i) := q1
      have q2 : M.1 4 (3 * i) = nI p := Eq.trans q2 e1
      have q3 : M.1 4 (3 * i + 1) = nI q := Eq.trans q3 e2
      have q4 : M.1 4 (3 * i + 2) = nI r := Eq.trans q4 e3
      refine ⟨(vs z s x y w (i + 1), nI (i + 1)), ?_, hl, rfl⟩
      rw [h, if_neg (ngen (t := t) (by omega) (by omega) hl), bd_s, n3i, gd_t (inbn (by omega) (by omega)), show nI (3 * i) + 1 = nI (3 * i + 1) from nI_add _ 1, gd_t (inbn (by omega) (by omega)), show nI (3 * i) + 2 = nI (3 * i + 2) from nI_add _ 2, gd_t (inbn (by omega) (by omega)), bd_s, ixn (by omega), ixn (by omega), ixn (by omega), q2, q3, q4]
      simp only [bd_s]
      rw [nI_add, nI_add, nI_1]
      have hv : vs z s x y w (i + 1) = vs z s x y w i + (if s = true ∧ 2 < p + q + r then 0 else tv z x y w i) := by
        show vs z s x y w i + _ = _
        rw [e1, e2, e3, ixn (by omega), ixn (by omega), ixn (by omega)]
      rw [hv]
      by_cases hc : lim s < nI (p + q + r)
      · rw [if_pos hc]
        have : s = true ∧ 2 < p + q + r := by
          cases s with
          | true => exact ⟨rfl, (nlt (a := 2) (by omega) (by omega)).mp hc⟩
          | false => have := (nlt (a := 4) (by omega) (by omega)).mp hc; omega
        rw [if_pos this, Int64.add_zero]
      · rw [if_neg hc, if_neg (fun a => by
          obtain ⟨rfl, a⟩ := a
          exact hc ((nlt (a := 2) (by omega) (by omega)).mpr a)), gd_t (inbn (by omega) (by omega)), raised x (by omega), b1_s, raised y (by omega), b1_s, raised w (by omega), b1_s, ixn (by omega), q1]
        unfold tv
        rw [e1, e2, e3, ixn (by omega), ixn (by omega), ixn (by omega)]
    · right
      refine ⟨vs z s x y w i, ?_, by rw [show i = t by omega]⟩
      rw [h, if_pos (gen (by omega) (by omega) hl)])
  rw [e, b1_s, hr]
theorem valM {M : Mm} {t : Nat} (ht : ∀ i, i < t → tOK (M.1 96) i) (h : M.1 96 1 = nI t) (lt : t ≤ 10) (s : Bool) (x y w : Int32) : fX11_valueAt M x y w (if s then 1 else 0) = some (vs (M.1 96) s x y w t) := by
  unfold fX11_valueAt
  obtain ⟨r, e, hr⟩ := itr_0 (body := fX11_valueAt_L6 M x y w (if s then 1 else 0)) (s := ((0 : Int64), (0 : Int32))) (fun i q => q = (vs (M.1 96) s x y w i, nI i)) (fun r => r = vs (M.1 96) s x y w t) t (by omega) rfl (fun i q hi hq => by
    subst hq
    unfold fX11_valueAt_L6 u2
    dsimp only
    rcases Nat.lt_or_ge i t with hl | hl
    · left
      obtain ⟨-, p, q, r, hp, e1, e2, e3⟩ := ht i hl
      refine ⟨(vs (M.1 96) s x y w (i + 1), nI (i + 1)), ?_, hl, rfl⟩
      have hv : vs (M.1 96) s x y w (i + 1) = vs (M.1 96) s x y w i + (if s = true ∧ 2 < p + q + r then 0 else tv (M.1 96) x y w i) := by
        show vs (M.1 96) s x y w i + _ = _
        rw [e1, e2, e3, ixn (by omega), ixn (by omega), ixn (by omega)]
      have htv : tv (M.1 96) x y w i = (M.1 96 (21 + 4 * i)).toInt64 * pw x p * pw y q * pw w r := by
        unfold tv; rw [e1, e2, e3, ixn (by omega), ixn (by omega), ixn (by omega)]
      rw [h, if_neg (ngen (t := t) (by omega) (by omega) hl), bd_s, n4i, show (21 : Int32) + nI (4 * i) = nI (21 + 4 * i) from nI_add 21 _, show nI (21 + 4 * i) + 1 = nI (21 + 4 * i + 1) from nI_add _ 1, show nI (21 + 4 * i) + 2 = nI (21 + 4 * i + 2) from nI_add _ 2, show nI (21 + 4 * i) + 3 = nI (21 + 4 * i + 3) from nI_add _ 3, ixn (by omega), ixn (by omega), ixn (by omega), ixn (by omega), e1, e2, e3]
      have g0 : inb (nI (21 + 4 * i)) 111 := inbn (by omega) (by omega)
      have g1 : inb (nI (21 + 4 * i + 1)) 111 := inbn (by omega) (by omega)
      have g2 : inb (nI (21 + 4 * i + 2)) 111 := inbn (by omega) (by omega)
      have g3 : inb (nI (21 + 4 * i + 3)) 111 := inbn (by omega) (by omega)
      simp only [bd_s, gd_t g0, gd_t g1, gd_t g2, gd_t g3, power_raised, raised x (show p < 999 by omega), raised y (show q < 999 by omega), raised w (show r < 999 by omega), b1_s, nI_add, nI_1, hv, htv]
      cases s with
      | false => simp [lim]
      | true =>
        by_cases hc : 2 < p + q + r
        · have c2 : (2 : Int32) < nI (p + q + r) := (nlt (a := 2) (by omega) (by omega)).mpr hc
          simp [c2, hc]
        · have c2 : ¬ (2 : Int32) < nI (p + q + r) := fun a => hc ((nlt (a := 2) (by omega) (by omega)).mp a)
          simp [c2, hc]
    · right
      refine ⟨vs (M.1 96) s x y w i, ?_, by rw [show i = t by omega]⟩
      rw [h, if_pos (gen (by omega) (by omega) hl)])
  rw [e, b1_s, hr]
theorem p_value {M : Mm} (h : R M) (w1 w2 w3 w4 : Int32) : ∃ r, fX10_value M w1 w2 w3 w4 = some r ∧ fX11_value M w1 w2 w3 w4 = some r := by
  obtain ⟨n, t, d, e, k, hn, hsc, hb', ht, hd, hl⟩ := h.1
  have a1 : M.1 1 0 = nI n := hn.2.1.1
  have a2 : M.1 96 0 = nI n := hn.2.1.2
  have a3 : M.1 2 0 = nI t := hn.2.2.1.1
  have a4 : M.1 96 1 = nI t := hn.2.2.1.2
  have lt := hn.1.2.2.1
  unfold fX10_value fX11_value
  rw [fitX, arePlaceM, a1, a2, b1_s, b1_s]
  by_cases hc : rg (-50) 50 w1 ∧ rg (-50) 50 w2 ∧ rg (-50) 50 w3 ∧ ofv (nI n) w2 w3
  · have X : ∀ s, fX7_sumAt M w1 w2 w3 (lim s) = some (vs (M.1 96) s w1 w2 w3 t) := fun s => sumX ht a3 lt s w1 w2 w3
    have V : ∀ s, fX11_valueAt M w1 w2 w3 (if s then 1 else 0) = some (vs (M.1 96) s w1 w2 w3 t) := fun s => valM (fun i hi => (ht i hi).2.2) a4 lt s w1 w2 w3
    rw [if_pos hc, i10, i10, within_in]
    rcases in_n w4 1 (by omega) with q | ⟨v, hv, rfl, q⟩
    · have q : fX11_in w4 0 1 = some 0 := q
      rw [q]; exact ⟨_, rfl, rfl⟩
    · have q : fX11_in (nI v) 0 1 = some 1 := q
      rw [q, b1_s, b1_s, i10, i10, bd_s]
      rcases (show v = 0 ∨ v = 1 by omega) with rfl | rfl
      · have x1 : fX7_sumAt M w1 w2 w3 4 = some (vs (M.1 96) false w1 w2 w3 t) := X false
        have v1 : fX11_valueAt M w1 w2 w3 0 = some (vs (M.1 96) false w1 w2 w3 t) := V false
        rw [if_neg (show ¬ nI 0 = 1 by decide), if_neg (show ¬ nI 0 = 1 by decide)]
        dsimp only
        rw [x1, v1]
        exact ⟨_, rfl, congrArg some (Int64.add_comm _ _)⟩
      · have x1 : fX7_sumAt M w1 w2 w3 2 = some (vs (M.1 96) true w1 w2 w3 t) := X true
        have v1 : fX11_valueAt M w1 w2 w3 1 = some (vs (M.1 96) true w1 w2 w3 t) := V true
        rw [if_pos (show nI 1 = 1 from rfl), if_pos (show nI 1 = 1 from rfl)]
        dsimp only
        rw [x1, v1]
        exact ⟨_, rfl, congrArg some (Int64.add_comm _ _)⟩
  · rw [if_neg hc]; exact ⟨_, rfl, rfl⟩
