/-! ===== the law's loop over trials ===== -/
/-- what the loop holds: x the best one so far (or -1), c how many were looked at, y the least value -/
def TI (M : Mm) (t e m : Nat) (g : Nat → Nat) (all : Bool) (a : Nat) (x : Int32) (c : Nat) (y6 : Int64) : Prop :=
  ((x = -1 ∨ (all = true ∧ ∃ b, b < a ∧ x = nI (g b))) ∧ c = a ∧ ∃ y, y6 = up y ∧ vok y ∧ ch (vlz (zM M) e t) g all (m - a) a x y = chz M t e m g all) ∨
  (all = false ∧ (∃ b, b < a ∧ x = nI (g b)) ∧ c ≤ a ∧ chz M t e m g all = (x, c))
theorem TI.end_ {M : Mm} {t e m : Nat} {g : Nat → Nat} {all : Bool} {x : Int32} {c : Nat} {y6 : Int64} (h : TI M t e m g all m x c y6) : chz M t e m g all = (x, c) := by
  rcases h with ⟨-, rfl, y, -, -, q⟩ | ⟨-, -, -, q⟩
  · rw [Nat.sub_self] at q; exact q.symm
  · exact q
theorem way1 {M : Mm} {all : Bool} (hw : Way M all) : (M.1 1 2 = 1) ↔ all = true := by
  rcases hw with ⟨q, rfl⟩ | ⟨q, rfl⟩
  · rw [q]; decide
  · rw [q]; decide
theorem trStep {n t d e k : Nat} {M M8 : Mm} (h : JJ n t d e k M) (p : PA M) {m : Nat} {g : Nat → Nat} (L : TL t d e M m g) {all : Bool} (hw : Way M all) {a : Nat} (ha : a < m) (vw : ∀ c j, c < 80 → M8.1 c j = M.1 c j) (hr : ∀ b, b < a → M8.1 95 b = nI (g b)) {mk : Nat} (hb : PB g mk a) {x : Int32} {c : Nat} {y6 : Int64} (hI : TI M t e m g all a x c y6) :
    ∃ x' c' y' M', fL_trials_L16 (nI a, x, nI c, y6, nI mk, M8) = some (.inl (nI (a + 1), x', nI c', y', nI (mk ||| 2 ^ g a), M')) ∧ TI M t e m g all (a + 1) x' c' y' ∧ (∀ c j, c < 80 → M'.1 c j = M.1 c j) ∧ ∀ b, b < a + 1 → M'.1 95 b = nI (g b) := by
  have ld := h.1.1.2.2.2.1
  have md := L.1
  obtain ⟨gl, gok⟩ := L.2.2.1 a ha
  have l8 : Lo M M8 := fun c j q => vw c j (by omega)
  obtain ⟨M11, f1, v1⟩ := trialA (h.lo l8) (L.lo l8) ha
  have l11 : Lo M M11 := fun c j q => (v1 c j (by omega)).trans (l8 c j q)
  obtain ⟨M15, f2, v2⟩ := trialA (h.lo l11) (L.lo l11) ha
  have l15 : Lo M M15 := fun c j q => (v2 c j (by omega)).trans (l11 c j q)
  obtain ⟨M29, f3, v3⟩ := trialB (h.lo l15) (L.lo l15) ha
  have l29 : Lo M M29 := fun c j q => (v3 c j (by omega)).trans (l15 c j q)
  have J29 := h.lo l29
  have r29 : ∀ b, b < a → M29.1 95 b = nI (g b) := fun b hb => (v3 95 b (by omega)).trans ((v2 95 b (by omega)).trans ((v1 95 b (by omega)).trans (hr b hb)))
  have s29 : ∀ c j, c < 80 → M29.1 c j = M.1 c j := fun c j q => (v3 c j (by omega)).trans ((v2 c j (by omega)).trans ((v1 c j (by omega)).trans (vw c j q)))
  obtain ⟨v, ev⟩ : ∃ v, v = vlz (zM M) e t (g a) := ⟨_, rfl⟩
  obtain ⟨y0, ey0⟩ : ∃ y0, y0 = vh M t := ⟨_, rfl⟩
  have okv : vok v := by rw [ev]; exact vlz_ok h gok
  have oky : vok y0 := by rw [ey0]; exact vh_ok h p
  have T15 : fL_there M15 (nI (g a)) 0 = some (up v) := by
    have := there0L (h.lo l15) gl (by rw [zM_low l15]; exact gok)
    rw [zM_low l15, ← ev] at this; exact this
  have T29 : fL_there M29 (nI (g a)) 0 = some (up v) := by
    have := there0L J29 gl (by rw [zM_low l29]; exact gok)
    rw [zM_low l29, ← ev] at this; exact this
  have H15 : fL_here M15 = some (up y0) := by
    have := hereL (h.lo l15) (p.lo l15)
    rw [vh_lo l15, ← ey0] at this; exact this
  have C15 : fL_canTry M15 (nI (g a)) = some 1 := by
    have := canTryL (h.lo l15) gl
    rw [zM_low l15, if_pos gok] at this; exact this
  rw [zM_low l15, vh_lo l15, ← ev, ← ey0] at f3
  have seen : ¬ ((nI mk >>> (nI (g a) &&& 31)) &&& 1) = 1 := by
    have q := (bits mk hb.1 (g a) (by omega)).1.mpr (by
      rcases hq : mk.testBit (g a) with _ | _
      · rfl
      · obtain ⟨b, b1, b2⟩ := (hb.2 (g a) (by omega)).mp hq
        have w := L.2.1 b a b1 ha
        rw [b2] at w
        exact absurd w klt.irr)
    rw [q]; decide
  have mk' : (nI mk ||| (1 <<< (nI (g a) &&& 31))) = nI (mk ||| 2 ^ g a) := (bits mk hb.1 (g a) (by omega)).2
  have c3 : fX10_count M29 3 = some (M29.1 1 1) := cnt_3 M29
  have flag : (if 0 ≤ lg_cmp v y0 then (0 : Int32) else 1) = (if (if 0 ≤ lg_cmp (up v) (up y0) then (0 : Int32) else 1) = 0 then 0 else 1) := by
    rw [up_cmp okv oky]
    by_cases q : 0 ≤ lg_cmp v y0
    · rw [if_pos q, if_pos rfl]
    · rw [if_neg q, if_neg (by decide)]
  -- the last stage: the store, and what is best then
  have way29 : M29.1 1 2 = M.1 1 2 := l29 1 2 (by omega)
  have pre : fL_trials_L16 (nI a, x, nI c, y6, nI mk, M8) = (bd (fun (x54 : Int32) (y55 : Int64) => gd (inb (nI a) 8) <| bd (stI M29 95 (ix (nI a)) (nI (g a))) fun M57 => bd (nI mk ||| (1 <<< (nI (g a) &&& 31))) fun x58 => bd (nI a + 1) fun x59 => some (Sum.inl (x59, x54, (nI c + (if lks M29 x = 0 then 0 else 1)), y55, x58, M57))) fun k52 => (if lks M29 x = 0 then k52 x y6 else b1 (fL_there M29 (nI (g a)) 0) fun y62 => (if 0 ≤ (lg_cmp y62 y6) then k52 x y6 else b1 (fL_there M29 (nI (g a)) 0) fun y65 => k52 (nI (g a)) y65))) := by
    unfold fL_trials_L16 u6
    try dsimp only
    rw [f1, b2_s, if_neg (nneg (by omega)), f2, b2_s, T15, b1_s, H15, b1_s, bd_01]
    rw [C15, b1_s, if_neg (show ¬ (1 : Int32) = 0 by decide), if_neg seen, f3, b2_s, bd_01]
    try dsimp only
    rw [if_pos flag, firstS]
    try dsimp only
    rw [aheadS J29 (L.lo l29) ha r29]
    try dsimp only
    rw [if_neg (show ¬ (1 : Int32) = 0 by decide), bd_s]
    have fz : ∀ (w : Option ((Int32 × Int32 × Int32 × Int64 × Int32 × Mm) ⊕ ((Mm) ⊕ ((Mm) ⊕ (Int32 × Int32 × Int32 × Mm))))) (u : Option ((Int32 × Int32 × Int32 × Int64 × Int32 × Mm) ⊕ ((Mm) ⊕ ((Mm) ⊕ (Int32 × Int32 × Int32 × Mm))))), (if fst1 M29 (nI (g a)) = 0 then w else (if nI a ≤ 0 then w else u)) = w := fun w u => by
      rcases fst1_0 J29 (L.lo l29) ha with q | q
      · rw [if_pos q]
      · subst q
        rw [if_pos (show nI 0 ≤ 0 by decide)]
        simp only [ite_self]
    try dsimp only
    rw [fz, looksS]
    try dsimp only
    rw [bd_01]
    try dsimp only
    rw [bd_s]
  obtain ⟨M57, e57⟩ : ∃ M57, M57 = stI M29 95 a (nI (g a)) := ⟨_, rfl⟩
  have q57 : ∀ c j, c < 80 → M57.1 c j = M.1 c j := fun c j q => by rw [e57, stI_rd, if_neg (by omega)]; exact s29 c j q
  have w57 : ∀ b, b < a + 1 → M57.1 95 b = nI (g b) := fun b hb => by
    rw [e57, stI_rd]
    by_cases w : b = a
    · rw [if_pos ⟨rfl, w⟩, w]
    · rw [if_neg (fun q => w q.2)]; exact r29 b (by omega)
  have fin : ∀ (x54 : Int32) (y55 : Int64) (l : Int32), (gd (inb (nI a) 8) <| bd (stI M29 95 (ix (nI a)) (nI (g a))) fun M57 => bd (nI mk ||| (1 <<< (nI (g a) &&& 31))) fun x58 => bd (nI a + 1) fun x59 => (some (Sum.inl (x59, x54, (nI c + l), y55, x58, M57)) : Option ((Int32 × Int32 × Int32 × Int64 × Int32 × Mm) ⊕ ((Mm) ⊕ ((Mm) ⊕ (Int32 × Int32 × Int32 × Mm)))))) = some (Sum.inl (nI (a + 1), x54, nI c + l, y55, nI (mk ||| 2 ^ g a), M57)) := fun x54 y55 l => by
    rw [gd_t (inbn (by omega) (by omega)), ixn (by omega), bd_s, bd_s, bd_s, ← e57, mk', nI_1]
  rw [pre]
  simp only [fin]
  rw [bd_s]
  have chs : m - a = (m - (a + 1)) + 1 := by omega
  rcases hI with ⟨h1, rfl, y, rfl, oky6, hc⟩ | ⟨h1, ⟨b, hb1, hb2⟩, h3, hc⟩
  · have lk : lks M29 x = 1 := by
      unfold lks
      rw [if_pos]
      rcases h1 with q | ⟨q, -⟩
      · left; rw [q]; decide
      · right; rw [way29]; exact (way1 hw).mpr q
    rw [lk, if_neg (show ¬ (1 : Int32) = 0 by decide), if_neg (show ¬ (1 : Int32) = 0 by decide), T29, b1_s, up_cmp okv oky6, b1_s, nI_1]
    rw [chs] at hc
    unfold ch at hc
    rw [← ev] at hc
    by_cases q : 0 ≤ lg_cmp v y
    · rw [if_pos q] at hc
      rw [if_pos q]
      refine ⟨x, c + 1, up y, M57, rfl, Or.inl ⟨?_, rfl, y, rfl, oky6, hc⟩, q57, w57⟩
      rcases h1 with w | ⟨w, b, b1, b2⟩
      · exact Or.inl w
      · exact Or.inr ⟨w, b, by omega, b2⟩
    · rw [if_neg q] at hc
      rw [if_neg q]
      by_cases ha2 : all = true
      · rw [if_pos ha2] at hc
        exact ⟨nI (g c), c + 1, up v, M57, rfl, Or.inl ⟨Or.inr ⟨ha2, c, by omega, rfl⟩, rfl, v, rfl, okv, hc⟩, q57, w57⟩
      · rw [if_neg ha2] at hc
        refine ⟨nI (g c), c + 1, up v, M57, rfl, Or.inr ⟨?_, ⟨c, by omega, rfl⟩, by omega, hc.symm⟩, q57, w57⟩
        cases all with
        | false => rfl
        | true => exact absurd rfl ha2
  · have lk : lks M29 x = 0 := by
      have gb := (L.2.2.1 b (by omega)).1
      unfold lks
      rw [if_neg]
      rintro (q | q)
      · rw [hb2] at q; exact absurd q (nneg (by omega))
      · rw [way29] at q
        have := (way1 hw).mp q
        rw [h1] at this; exact absurd this (by decide)
    rw [lk, if_pos rfl, if_pos rfl, Int32.add_zero]
    exact ⟨x, c, y6, M57, rfl, Or.inr ⟨h1, ⟨b, by omega, hb2⟩, by omega, hc⟩, q57, w57⟩
/-- the loop to its end -/
theorem trLoop {n t d e k : Nat} {M : Mm} (h : JJ n t d e k M) (p : PA M) {m : Nat} {g : Nat → Nat} (L : TL t d e M m g) {all : Bool} (hw : Way M all) : ∃ mk M', itr fL_trials_L16 1000 (0, (-1), 0, up (vh M t), 0, M) = some (.inr (.inr ((chz M t e m g all).1, nI (chz M t e m g all).2, nI mk, M'))) ∧ PB g mk m ∧ ∀ c j, c < 80 → M'.1 c j = M.1 c j := by
  have ld := h.1.1.2.2.2.1
  have md := L.1
  obtain ⟨r, f, mk, M', e1, hb, o⟩ := itr_0 (body := fL_trials_L16) (s := ((0 : Int32), ((-1) : Int32), (0 : Int32), up (vh M t), (0 : Int32), M)) (fun a s => ∃ x c y6 mk M8, s = (nI a, x, nI c, y6, nI mk, M8) ∧ TI M t e m g all a x c y6 ∧ PB g mk a ∧ (∀ c j, c < 80 → M8.1 c j = M.1 c j) ∧ ∀ b, b < a → M8.1 95 b = nI (g b)) (fun r => ∃ mk M', r = .inr (.inr ((chz M t e m g all).1, nI (chz M t e m g all).2, nI mk, M')) ∧ PB g mk m ∧ ∀ c j, c < 80 → M'.1 c j = M.1 c j) m (by omega) ⟨-1, 0, up (vh M t), 0, M, rfl, Or.inl ⟨Or.inl rfl, rfl, vh M t, rfl, vh_ok h p, rfl⟩, ⟨by omega, fun i _ => by constructor; intro q; rw [Nat.zero_testBit] at q; exact absurd q (by decide); rintro ⟨b, hb, -⟩; exact absurd hb (by omega)⟩, fun _ _ _ => rfl, fun b hb => absurd hb (by omega)⟩ (by
    rintro a s hs ⟨x, c, y6, mk, M8, rfl, hI, hb, vw, hr⟩
    rcases Nat.lt_or_ge a m with hl | hl
    · left
      obtain ⟨x', c', y', M', f, hI', vw', hr'⟩ := trStep h p L hw hl vw hr hb hI
      exact ⟨_, f, hl, x', c', y', _, M', rfl, hI', hb.put (by have := (L.2.2.1 a hl).1; omega), vw', hr'⟩
    · right
      obtain rfl : a = m := by omega
      have l8 : Lo M M8 := fun c j q => vw c j (by omega)
      obtain ⟨M1, f1, v1⟩ := trialE (h.lo l8) (L.lo l8)
      have ec := hI.end_
      refine ⟨.inr (.inr (x, nI c, nI mk, M1)), ?_, mk, M1, ?_, hb, fun c j q => (v1 c j (by omega)).trans (vw c j q)⟩
      · unfold fL_trials_L16 u6
        dsimp only
        rw [f1, b2_s, if_pos (show (-1000004 : Int32) < 0 by decide)]
      · rw [ec])
  exact ⟨mk, M', by rw [f, e1], hb, o⟩
