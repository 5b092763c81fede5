/-! ===== one poll ===== -/
theorem zM_mid (M : Mm) {j : Nat} (h1 : 21 ≤ j) (h2 : j < 61) : zM M j = if (j - 21) % 4 = 0 then M.1 3 ((j - 21) / 4) else M.1 4 (3 * ((j - 21) / 4) + (j - 21) % 4 - 1) := by
  unfold zM; rw [if_neg (by omega), if_neg (by omega), if_neg (by omega), if_neg (by omega), if_pos h2]
/-- what a poll finds: the direction that is taken (or -1), how many are looked at -/
def chz (M : Mm) (t e m : Nat) (g : Nat → Nat) (all : Bool) : Int32 × Nat := ch (vlz (zM M) e t) g all m 0 (-1) (vh M t)
def Way (M : Mm) (all : Bool) : Prop := (M.1 1 2 = 0 ∧ all = false) ∨ (M.1 1 2 = 1 ∧ all = true)
theorem way_ex {d : Nat} {M : Mm} (h : JS d M) : ∃ all, Way M all := by
  rcases h.2.1 with q | q
  · exact ⟨false, Or.inl ⟨q, rfl⟩⟩
  · exact ⟨true, Or.inr ⟨q, rfl⟩⟩
theorem Way.lo {M M' : Mm} {all : Bool} (h : Way M all) (l : Lo M M') : Way M' all := by
  unfold Way; rw [l 1 2 (by omega)]; exact h
/-- behind a poll without success -/
def PollF (n t d e k : Nat) (M M' : Mm) : Prop := JJ n t d (e - 1) k M' ∧ zM M' = zM M ∧ M'.1 11 3 = M.1 11 3 ∧ M'.1 11 8 = (if e = 0 then 1 else 0)
/-- behind a success in the direction i -/
def PollS (n t d e k i : Nat) (M M' : Mm) : Prop := i < d ∧ okz (zM M) e i ∧ JJ n t d (min (e + 1) 4) (min (k + 1) 6) M' ∧ PA M' ∧ (∀ v, v < 3 → M'.1 12 v = trz (zM M) e i v) ∧ (M'.1 11 3 = M.1 11 3 + 1 ∧ M'.1 11 5 = nI i ∧ M'.1 11 8 = 0 ∧ M'.1 10 i = M.1 10 i + 1) ∧ (∀ v, v < 3 → M'.1 13 v = M.1 12 v) ∧ ∀ j, 21 ≤ j → j < 61 → zM M' j = zM M j
theorem pollX {n t d e k : Nat} {M : Mm} (h : JJ n t d e k M) {m : Nat} {g : Nat → Nat} (L : TL t d e M m g) {all : Bool} (hw : Way M all) : ∃ M', fX6_pollOnce M = some ((chz M t e m g all).1, M') ∧ (M'.1 11 2 = M.1 11 2 + 1 ∧ M'.1 11 4 = M.1 11 4 + nI (chz M t e m g all).2) ∧ (∀ c j, 14 ≤ c → ¬ (86 ≤ c ∧ c < 90) → M'.1 c j = M.1 c j) ∧ (∀ c j, c = 6 ∨ c = 7 ∨ (c = 1 ∧ j < 3) ∨ c = 2 ∨ c = 8 → M'.1 c j = M.1 c j) ∧ (((chz M t e m g all).1 = -1 ∧ PollF n t d e k M M') ∨ ∃ i, (chz M t e m g all).1 = nI i ∧ PollS n t d e k i M M') := by
  obtain ⟨A2, f2, row, y2, o2⟩ := gatherF h L
  have md : m ≤ d := L.1
  obtain ⟨⟨⟨l1, l2, l3, l4, l5, l6⟩, a10, a20, a80, a111, a116⟩, hs, hb, ht, hd⟩ := id h
  have a212 : A2.1 1 2 = M.1 1 2 := o2 1 2 (by omega) (by omega)
  obtain ⟨A3, e3⟩ : ∃ A3, A3 = stI A2 86 5 0 := ⟨_, rfl⟩
  have r3 : ∀ c j, A3.1 c j = if c = 86 ∧ j = 5 then 0 else A2.1 c j := fun c j => by rw [e3, stI_rd]
  have row3 : RowX A3 m g (rkz (zM M) e t) (vlz (zM M) e t) := ⟨by rw [r3, if_neg (by omega)]; exact row.1, fun j hj => by rw [r3, if_neg (by omega), e3]; exact row.2 j hj⟩
  obtain ⟨q, A5, f5, fq, c5, o5⟩ := chooseX (all := all) hw (by omega) m 0 (-1) (vh M t) A3 (by omega) row3 (by rw [r3, if_pos ⟨rfl, rfl⟩]; rfl) 1000 (by omega)
  obtain ⟨c, ec⟩ : ∃ c, c = chz M t e m g all := ⟨_, rfl⟩
  have ec' : c = ch (vlz (zM M) e t) g all m 0 (-1) (vh M t) := ec
  rw [← ec'] at fq c5
  rw [← ec]
  have fch : fX9_chooseBetter A2 (A2.1 1 2) = some (c.1, A5) := by
    unfold fX9_chooseBetter
    rw [a212, y2, bd_s, bd_s, ← e3, show (0 : Int32) = nI 0 from rfl, f5]
    rcases fq with rfl | rfl <;> rfl
  have oA : ∀ c j, ¬ (86 ≤ c ∧ c < 90) → A5.1 c j = M.1 c j := fun c j w => by rw [o5 c j (by omega), r3, if_neg (by omega), o2 c j (by omega) (by omega)]
  obtain ⟨A7, e7, r7⟩ : ∃ A7, A7 = stI (stI A5 11 2 (A5.1 11 2 + 1)) 11 4 ((stI A5 11 2 (A5.1 11 2 + 1)).1 11 4 + (stI A5 11 2 (A5.1 11 2 + 1)).1 86 5) ∧ ∀ c' j, A7.1 c' j = if c' = 11 ∧ j = 4 then M.1 11 4 + nI c.2 else if c' = 11 ∧ j = 2 then M.1 11 2 + 1 else A5.1 c' j := by
    refine ⟨_, rfl, fun c' j => ?_⟩
    rw [stI_rd, show (stI A5 11 2 (A5.1 11 2 + 1)).1 11 4 = M.1 11 4 by rw [stI_rd, if_neg (by omega), oA 11 4 (by omega)], show (stI A5 11 2 (A5.1 11 2 + 1)).1 86 5 = nI c.2 by rw [stI_rd, if_neg (by omega), c5], stI_rd, oA 11 2 (by omega)]
  have pre : fX6_pollOnce M = (if c.1 = (-1) then b1 (fX4_fail A7) fun M21 => some ((-1), M21) else bd (A7.1 11 1) fun x9 => gd (inb c.1 8) <| bd (stI A7 10 (ix c.1) ((A7.1 10 (ix c.1)) + 1)) fun M11 => b1 (fX6_trialNumber M11 c.1 0 x9) fun x13 => b1 (fX6_trialNumber M11 c.1 1 x9) fun x15 => b1 (fX6_trialNumber M11 c.1 2 x9) fun x17 => b1 (fX4_succeed M11 c.1 x13 x15 x17) fun M19 => some (c.1, M19)) := by
    unfold fX6_pollOnce
    rw [a111, f2, b1_s, fch, b2_s, bd_s, bd_s, ← e7]
  obtain ⟨-, -, cv⟩ := ch_b (vlz (zM M) e t) g all m 0 (-1) (vh M t)
  rw [← ec'] at cv
  by_cases cneg : c.1 = -1
  · obtain ⟨A9, f9, r9⟩ := failX (M := A7) (e := e) (by rw [r7, if_neg (by omega), if_neg (by omega), oA 11 1 (by omega), a111]) l5
    have S : ∀ c' j, c' < 86 ∨ 90 ≤ c' → ¬ (c' = 11 ∧ (j = 1 ∨ j = 2 ∨ j = 4 ∨ j = 8)) → A9.1 c' j = M.1 c' j := fun c' j w1 w2 => by rw [r9, if_neg (by omega), if_neg (by omega), r7, if_neg (by omega), if_neg (by omega), oA c' j (by omega)]
    have e8 : A9.1 11 8 = if e = 0 then 1 else 0 := by rw [r9, if_neg (by omega), if_pos ⟨rfl, rfl⟩]
    refine ⟨A9, by rw [pre, if_pos cneg, f9, b1_s, cneg], ⟨?_, ?_⟩, fun c' j w1 w2 => S c' j (by omega) (by omega), fun c' j w => S c' j (by omega) (by omega), Or.inl ⟨cneg, ⟨⟨⟨l1, l2, l3, l4, by omega, l6⟩, (S 1 0 (by omega) (by omega)).trans a10, (S 2 0 (by omega) (by omega)).trans a20, (S 8 0 (by omega) (by omega)).trans a80, ?_, (S 11 6 (by omega) (by omega)).trans a116⟩, ⟨?_, ?_, ?_, ?_⟩, hb.c (fun v _ => S 6 v (by omega) (by omega)) (fun v _ => S 7 v (by omega) (by omega)) (fun v _ _ => S 12 v (by omega) (by omega)), ht.c (fun j => S 3 j (by omega) (by omega)) (fun j => S 4 j (by omega) (by omega)), hd.c (fun j => S 9 j (by omega) (by omega))⟩, ?_, S 11 3 (by omega) (by omega), e8⟩⟩
    · rw [r9, if_neg (by omega), if_neg (by omega), r7, if_neg (by omega), if_pos ⟨rfl, rfl⟩]
    · rw [r9, if_neg (by omega), if_neg (by omega), r7, if_pos ⟨rfl, rfl⟩]
    · rw [r9, if_pos ⟨rfl, rfl⟩]
    · rw [S 1 1 (by omega) (by omega)]; exact hs.1
    · rw [S 1 2 (by omega) (by omega)]; exact hs.2.1
    · rw [e8]
      by_cases w : e = 0
      · rw [if_pos w]; exact Or.inr rfl
      · rw [if_neg w]; exact Or.inl rfl
    · rw [S 11 5 (by omega) (by omega)]; exact hs.2.2.2
    · funext j
      unfold zM
      rw [S 1 1 (by omega) (by omega), S 11 5 (by omega) (by omega), S 6 _ (by omega) (by omega), S 7 _ (by omega) (by omega), S 12 _ (by omega) (by omega), S 3 _ (by omega) (by omega), S 4 _ (by omega) (by omega), S 10 _ (by omega) (by omega), S 9 _ (by omega) (by omega)]
  · obtain ⟨a, -, ha, ci⟩ := cv.resolve_left cneg
    obtain ⟨il, iok⟩ := L.2.2.1 a (by omega)
    obtain ⟨i, ei⟩ : ∃ i, i = g a := ⟨_, rfl⟩
    rw [← ei] at il ci iok
    have a7 : A7.1 11 1 = nI (2 ^ e) := by rw [r7, if_neg (by omega), if_neg (by omega), oA 11 1 (by omega), a111]
    obtain ⟨A8, e8⟩ : ∃ A8, A8 = stI A7 10 i (A7.1 10 i + 1) := ⟨_, rfl⟩
    have r8 : ∀ c' j, A8.1 c' j = if c' = 10 ∧ j = i then M.1 10 i + 1 else A7.1 c' j := fun c' j => by rw [e8, stI_rd, show A7.1 10 i = M.1 10 i by rw [r7, if_neg (by omega), if_neg (by omega), oA 10 i (by omega)]]
    have q8 : ∀ c' j, c' ≠ 10 → c' ≠ 11 → ¬ (86 ≤ c' ∧ c' < 90) → A8.1 c' j = M.1 c' j := fun c' j w1 w2 w3 => by rw [r8, if_neg (by omega), r7, if_neg (by omega), if_neg (by omega), oA c' j w3]
    have tr : ∀ v, v < 3 → fX6_trialNumber A8 (nI i) (nI v) (nI (2 ^ e)) = some (trz (zM M) e i v) := fun v hv => by
      rw [trial_cong (M := M) (fun j => q8 12 j (by omega) (by omega) (by omega)) (fun j => q8 9 j (by omega) (by omega) (by omega))]
      exact trialX h.cx e il hv
    have tr0 : fX6_trialNumber A8 (nI i) 0 (nI (2 ^ e)) = _ := tr 0 (by omega)
    have tr1 : fX6_trialNumber A8 (nI i) 1 (nI (2 ^ e)) = _ := tr 1 (by omega)
    have tr2 : fX6_trialNumber A8 (nI i) 2 (nI (2 ^ e)) = _ := tr 2 (by omega)
    obtain ⟨A9, f9, ⟨u1, u2', u3', u4', u5', u6, u8⟩, ⟨v0, v1, v2⟩, w0, w1, o9⟩ := succeedX (M := A8) (k := k) (e := e) (by rw [r8, if_neg (by omega), r7, if_neg (by omega), if_neg (by omega), oA 11 6 (by omega), a116]) (by rw [r8, if_neg (by omega), a7]) l6 l5 (nI i) (trz (zM M) e i 0) (trz (zM M) e i 1) (trz (zM M) e i 2)
    have S : ∀ c' j, c' < 86 ∨ 90 ≤ c' → c' ≠ 10 → c' ≠ 11 → c' ≠ 12 → c' ≠ 13 → A9.1 c' j = M.1 c' j := fun c' j w1 w2 w3 w4 w5 => by rw [o9 c' j w3 w4 w5, q8 c' j w2 w3 (by omega)]
    have e11 : ∀ j, j = 2 ∨ j = 4 ∨ j = 3 → A8.1 11 j = A7.1 11 j := fun j w => by rw [r8, if_neg (by omega)]
    have pl : ∀ v, v < 3 → A9.1 12 v = trz (zM M) e i v := fun v hv => by
      rcases (show v = 0 ∨ v = 1 ∨ v = 2 by omega) with rfl | rfl | rfl
      · exact v0
      · exact v1
      · exact v2
    have cells := allw_cells.mp iok
    refine ⟨A9, ?_, ⟨?_, ?_⟩, fun c' j w1 w2 => S c' j (by omega) (by omega) (by omega) (by omega) (by omega), fun c' j w => S c' j (by omega) (by omega) (by omega) (by omega) (by omega), Or.inr ⟨i, ci, il, iok, ⟨⟨⟨l1, l2, l3, l4, by omega, by omega⟩, (S 1 0 (by omega) (by omega) (by omega) (by omega) (by omega)).trans a10, (S 2 0 (by omega) (by omega) (by omega) (by omega) (by omega)).trans a20, (S 8 0 (by omega) (by omega) (by omega) (by omega) (by omega)).trans a80, u1, u6⟩, ⟨?_, ?_, Or.inl u8, Or.inr ⟨i, il, u5'⟩⟩, fun v hv => ?_, ht.c (fun j => S 3 j (by omega) (by omega) (by omega) (by omega) (by omega)) (fun j => S 4 j (by omega) (by omega) (by omega) (by omega) (by omega)), hd.c (fun j => S 9 j (by omega) (by omega) (by omega) (by omega) (by omega))⟩, fun v hv => ?_, pl, ⟨?_, u5', u8, ?_⟩, fun v hv => ?_, fun j h1 h2 => ?_⟩⟩
    · rw [pre, if_neg cneg, bd_s, a7, ci, gd_t (inbn (by omega) (by omega)), ixn (by omega), bd_s, ← e8, tr0, b1_s, tr1, b1_s, tr2, b1_s, f9, b1_s]
    · rw [u2', e11 2 (by omega), r7, if_neg (by omega), if_pos ⟨rfl, rfl⟩]
    · rw [u4', e11 4 (by omega), r7, if_pos ⟨rfl, rfl⟩]
    · rw [S 1 1 (by omega) (by omega) (by omega) (by omega) (by omega)]; exact hs.1
    · rw [S 1 2 (by omega) (by omega) (by omega) (by omega) (by omega)]; exact hs.2.1
    · rw [S 6 v (by omega) (by omega) (by omega) (by omega) (by omega), S 7 v (by omega) (by omega) (by omega) (by omega) (by omega)]
      have q := hb v hv
      refine ⟨q.1, q.2.1, fun w => ⟨(q.2.2 w).1, (q.2.2 w).2.1, ?_⟩⟩
      rw [pl v hv]
      have o := h.tr0 e il
      rcases (show v = 1 ∨ v = 2 by omega) with rfl | rfl
      · exact o.1 w
      · exact o.2 w
    · rw [S 6 v (by omega) (by omega) (by omega) (by omega) (by omega), S 7 v (by omega) (by omega) (by omega) (by omega) (by omega), pl v hv]
      rcases (show v = 0 ∨ v = 1 ∨ v = 2 by omega) with rfl | rfl | rfl
      · exact cells.1
      · exact cells.2.1
      · exact cells.2.2
    · rw [u3', e11 3 (by omega), r7, if_neg (by omega), if_neg (by omega), oA 11 3 (by omega)]
    · rw [o9 10 i (by omega) (by omega) (by omega), r8, if_pos ⟨rfl, rfl⟩]
    · rw [w0 v hv, q8 12 v (by omega) (by omega) (by omega)]
    · rw [zM_mid A9 h1 h2, zM_mid M h1 h2, S 3 _ (by omega) (by omega) (by omega) (by omega) (by omega), S 4 _ (by omega) (by omega) (by omega) (by omega) (by omega)]
