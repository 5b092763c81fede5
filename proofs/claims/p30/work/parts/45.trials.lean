/-! ===== the law's trials, one by one ===== -/
theorem bd_01 {β : Type} {c : Prop} [Decidable c] (f : Int32 → Option β) (u v : Int32) : (bd f fun k => (if c then k u else k v)) = f (if c then u else v) := by
  rw [bd_s]; by_cases h : c
  · rw [if_pos h, if_pos h]
  · rw [if_neg h, if_neg h]
theorem ap_if {α β : Type} {c : Prop} [Decidable c] (f : α → β) (u v : α) : (if c then f u else f v) = f (if c then u else v) := by
  by_cases h : c
  · rw [if_pos h, if_pos h]
  · rw [if_neg h, if_neg h]
theorem rkz_0 {M : Mm} {e t i : Nat} (h : M.1 1 1 = 0) : rkz (zM M) e t i = 0 := by
  unfold rkz; rw [zM_4, h, if_neg (by decide), if_neg (by decide)]
theorem rkz_1 {M : Mm} {e t i : Nat} (h : M.1 1 1 = 1) : rkz (zM M) e t i = if nI i = M.1 11 5 then 0 else 1 := by
  unfold rkz; rw [zM_4, h, if_pos rfl, zM_9]
theorem rkz_2 {M : Mm} {e t i : Nat} (h : M.1 1 1 = 2) : rkz (zM M) e t i = vtz (zM M) true e t i := by
  unfold rkz vtz; rw [zM_4, h, if_neg (by decide), if_pos rfl]
/-- the first one alone is the direction of the latest success -/
theorem firstF {n t d e k : Nat} {M : Mm} (h : JJ n t d e k M) {m : Nat} {g : Nat → Nat} (L : TL t d e M m g) {a : Nat} (ha : a < m) (o : M.1 1 1 = 1) (hl : nI (g a) = M.1 11 5) : a = 0 := by
  rcases Nat.eq_zero_or_pos a with q | q
  · exact q
  · have ld := h.1.1.2.2.2.1
    have g0 := (L.2.2.1 0 (by omega)).1
    have ga := (L.2.2.1 a ha).1
    have w := L.2.1 0 a q ha
    unfold klt at w
    rw [rkz_1 o, rkz_1 o, if_pos hl] at w
    by_cases c : nI (g 0) = M.1 11 5
    · have : g 0 = g a := (neq (by omega) (by omega)).mp (c.trans hl.symm)
      rw [if_pos c] at w
      omega
    · rw [if_neg c, show (1 : Int64).toInt = 1 by decide, show (0 : Int64).toInt = 0 by decide] at w
      omega
/-- the one ahead of a trial -/
theorem aheadF {n t d e k : Nat} {M : Mm} (h : JJ n t d e k M) {m : Nat} {g : Nat → Nat} (L : TL t d e M m g) {a : Nat} (ha : a + 1 < m) (o : ¬ M.1 1 1 = 2) : (M.1 1 1 = 1 ∧ a = 0 ∧ nI (g a) = M.1 11 5) ∨ g a < g (a + 1) := by
  have w := L.2.1 a (a + 1) (by omega) ha
  unfold klt at w
  rcases h.2.1.1 with q | q | q
  · rw [rkz_0 q, rkz_0 q] at w
    right; omega
  · by_cases c : nI (g a) = M.1 11 5
    · exact Or.inl ⟨q, firstF h L (by omega) q c, c⟩
    · right
      rw [rkz_1 q, rkz_1 q, if_neg c] at w
      rcases w with w | w
      · by_cases c2 : nI (g (a + 1)) = M.1 11 5
        · rw [if_pos c2, show (1 : Int64).toInt = 1 by decide, show (0 : Int64).toInt = 0 by decide] at w
          omega
        · rw [if_neg c2] at w; omega
      · exact w.2
  · exact absurd q o
theorem aheadF2 {t d e : Nat} {M : Mm} {m : Nat} {g : Nat → Nat} (L : TL t d e M m g) {a : Nat} (ha : a + 1 < m) (o : M.1 1 1 = 2) : lg_cmp (vtz (zM M) true e t (g a)) (vtz (zM M) true e t (g (a + 1))) < 0 ∨ (lg_cmp (vtz (zM M) true e t (g a)) (vtz (zM M) true e t (g (a + 1))) = 0 ∧ g a < g (a + 1)) := by
  have w := L.2.1 a (a + 1) (by omega) ha
  unfold klt at w
  rw [rkz_2 o, rkz_2 o] at w
  rcases w with w | ⟨w1, w2⟩
  · exact Or.inl ((lg_cmp_lt _ _).mpr (Int64.lt_iff_toInt_lt.mpr w))
  · exact Or.inr ⟨(lg_cmp_eq _ _).mpr (Int64.toInt_inj.mp w1), w2⟩
section TS
variable {β : Type} {n t d e k m a : Nat} {M : Mm} {g : Nat → Nat}
/-- whether the trial is the one of the latest success -/
def fst1 (M : Mm) (x : Int32) : Int32 := if M.1 1 1 = 1 ∧ x = (if M.1 11 5 = -1 then -1000004 else M.1 11 5) then 1 else 0
theorem firstS (f : Int32 → Option β) (x : Int32) : (b1 (fX10_count M 3) fun x35 => bd f fun k36 => bd (fun (_ : Unit) => k36 0) fun k106 => (if x35 = 1 then b1 (fX10_searchOf M 7) fun x110 => (if x = x110 then k36 1 else k106 ()) else k106 ())) = f (fst1 M x) := by
  rw [cnt_3, b1_s]
  simp only [bd_s]; unfold fst1
  by_cases h1 : M.1 1 1 = 1
  · rw [if_pos h1, so_7, b1_s]
    by_cases h2 : x = (if M.1 11 5 = -1 then -1000004 else M.1 11 5)
    · rw [if_pos h2, if_pos ⟨h1, h2⟩]
    · rw [if_neg h2, if_neg (fun q => h2 q.2)]
  · rw [if_neg h1, if_neg (fun q => h1 q.1)]
theorem fst1_0 (h : JJ n t d e k M) (L : TL t d e M m g) (ha : a < m) : fst1 M (nI (g a)) = 0 ∨ a = 0 := by
  have ld := h.1.1.2.2.2.1
  have ga := (L.2.2.1 a ha).1
  unfold fst1
  by_cases c : M.1 1 1 = 1 ∧ nI (g a) = (if M.1 11 5 = -1 then -1000004 else M.1 11 5)
  · right
    obtain ⟨c1, c2⟩ := c
    by_cases q : M.1 11 5 = -1
    · rw [if_pos q] at c2
      exact absurd c2 (fun w => by
        have := congrArg Int32.toInt w
        rw [tin (by omega), show (-1000004 : Int32).toInt = -1000004 by decide] at this
        omega)
    · rw [if_neg q] at c2
      exact firstF h L ha c1 c2
  · left; rw [if_neg c]
/-- whether the one ahead is rightly ahead -/
theorem aheadS (h : JJ n t d e k M) (L : TL t d e M m g) (ha : a < m) (hr : ∀ b, b < a → M.1 95 b = nI (g b)) (f : Int32 → Option β) : (bd f fun k39 => bd (fun (_ : Unit) => k39 1) fun k75 => (if nI a = 0 then k75 () else b1 (fX10_count M 3) fun x79 => bd (fun (_ : Unit) => k39 0) fun k80 => (if x79 = 2 then gd (inb (nI a - 1) 8) <| b1 (fL_there M (M.1 95 (ix (nI a - 1))) 1) fun y96 => b1 (fL_there M (nI (g a)) 1) fun y98 => (if (lg_cmp y96 y98) < 0 then k75 () else b1 (fL_there M (M.1 95 (ix (nI a - 1))) 1) fun y101 => b1 (fL_there M (nI (g a)) 1) fun y103 => (if (lg_cmp y101 y103) = 0 then (if nI (g a) ≤ (M.1 95 (ix (nI a - 1))) then k80 () else k75 ()) else k80 ())) else bd (fun (_ : Unit) => gd (inb (nI a - 1) 8) <| (if nI (g a) ≤ (M.1 95 (ix (nI a - 1))) then k80 () else k75 ())) fun k83 => (if nI a = 1 then b1 (fX10_count M 3) fun x89 => (if x89 = 1 then b1 (fX10_searchOf M 7) fun x92 => (if (M.1 95 0) = x92 then k75 () else k83 ()) else k83 ()) else k83 ())))) = f 1 := by
  have ld := h.1.1.2.2.2.1
  have md := L.1
  simp only [bd_s]
  rcases Nat.eq_zero_or_pos a with rfl | hp
  · rw [if_pos (show nI 0 = 0 from rfl)]
  · obtain ⟨b, rfl⟩ : ∃ b, a = b + 1 := ⟨a - 1, by omega⟩
    obtain ⟨gb, okb⟩ := L.2.2.1 b (by omega)
    obtain ⟨ga, oka⟩ := L.2.2.1 (b + 1) ha
    rw [if_neg (fun q => by have := (neq (a := b + 1) (b := 0) (by omega) (by omega)).mp q; omega), cnt_3, b1_s, show nI (b + 1) - 1 = nI b from (pk_sub (b := 1) (by omega)).trans (by rw [Nat.add_sub_cancel]), ixn (by omega), hr b (by omega)]
    by_cases o : M.1 1 1 = 2
    · have c1 := vtz_ok h true okb
      have c2 := vtz_ok h true oka
      rw [if_pos o, gd_t (inbn (by omega) (by omega)), there1L h gb okb, b1_s, there1L h ga oka, b1_s, up_cmp c1 c2]
      rcases aheadF2 L ha o with q | ⟨q1, q2⟩
      · rw [if_pos q]
      · rw [if_neg (by rw [q1]; decide), b1_s, b1_s, up_cmp c1 c2, if_pos q1, if_neg (ngen (by omega) (by omega) q2)]
    · rw [if_neg o]
      have go : g b < g (b + 1) → (gd (inb (nI b) 8) <| (if nI (g (b + 1)) ≤ nI (g b) then f 0 else f 1)) = f 1 := fun q => by
        rw [gd_t (inbn (by omega) (by omega)), if_neg (ngen (by omega) (by omega) q)]
      rcases aheadF h L ha o with ⟨o1, b0, q⟩ | q
      · subst b0
        have q' := hr 0 (by omega)
        have n1 : ¬ M.1 11 5 = -1 := fun w => m1_ne (by omega) (q.trans w)
        rw [if_pos (show nI (0 + 1) = 1 from rfl), b1_s, if_pos o1, so_7, b1_s, if_neg n1, q', if_pos q]
      · rw [go q]
        by_cases c1 : nI (b + 1) = 1
        · rw [if_pos c1, b1_s]
          by_cases c2 : M.1 1 1 = 1
          · rw [if_pos c2, so_7, b1_s]
            simp only [ite_self]
          · rw [if_neg c2]
        · rw [if_neg c1]
/-- whether the law looks at the trial -/
def lks (M : Mm) (x : Int32) : Int32 := if x < 0 ∨ M.1 1 2 = 1 then 1 else 0
theorem looksS (f : Int32 → Option β) (x : Int32) : (bd f fun k45 => bd (fun (_ : Unit) => k45 1) fun k67 => (if x < 0 then k67 () else b1 (fX10_count M 4) fun x71 => (if x71 = 1 then k67 () else k45 0))) = f (lks M x) := by
  simp only [bd_s]; unfold lks
  by_cases h1 : x < 0
  · rw [if_pos h1, if_pos (Or.inl h1)]
  · rw [if_neg h1, cnt_4, b1_s]
    by_cases h2 : M.1 1 2 = 1
    · rw [if_pos h2, if_pos (Or.inr h2)]
    · rw [if_neg h2, if_neg (fun q => q.elim h1 h2)]
end TS
