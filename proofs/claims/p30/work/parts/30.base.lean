/-! ===== numbers: base (class-side rows of whole) ===== -/
/-! ===== numbers: base ===== -/
theorem ixn {n : Nat} (h : n < 2147483648) : ix (nI n) = n := nI_clamp h
theorem inbn {n N : Nat} (h : n < N) (hN : N < 2147483648) : inb (nI n) N := vp_in_iff.mp (vp_in_nI h hN)
theorem li (n : Nat) : (OfNat.ofNat n : Int32) = nI n := rfl
theorem tin {n : Nat} (h : n < 2147483648) : (nI n).toInt = (n : Int) := nI_toInt h
theorem n3i (i : Nat) : 3 * nI i = nI (3 * i) := pk_mul 3 i
theorem n4i (i : Nat) : 4 * nI i = nI (4 * i) := pk_mul 4 i
theorem n8i (i : Nat) : 8 * nI i = nI (8 * i) := pk_mul 8 i
theorem nad (a k : Nat) : nI a + (OfNat.ofNat k : Int32) = nI (a + k) := nI_add a k
theorem nda (a k : Nat) : (OfNat.ofNat k : Int32) + nI a = nI (k + a) := nI_add k a
theorem nlt {a b : Nat} (ha : a < 2147483648) (hb : b < 2147483648) : nI a < nI b ↔ a < b := nI_ltI ha hb
theorem nle {a b : Nat} (ha : a < 2147483648) (hb : b < 2147483648) : nI a ≤ nI b ↔ a ≤ b := nI_leI ha hb
theorem neq {a b : Nat} (ha : a < 2147483648) (hb : b < 2147483648) : nI a = nI b ↔ a = b := nI_eq ha hb
theorem n0 : nI 0 = 0 := rfl
theorem n1 : nI 1 = 1 := rfl
theorem stI_rd (M : Mm) (c j : Nat) (v : Int32) (c' j' : Nat) : (stI M c j v).1 c' j' = if c' = c ∧ j' = j then v else M.1 c' j' := by
  unfold stI upd
  by_cases h : c' = c
  · subst h; by_cases h2 : j' = j <;> simp [h2]
  · simp [h]
theorem stI_2 (M : Mm) (c j : Nat) (v : Int32) : (stI M c j v).2 = M.2 := rfl
theorem stL_1 (M : Mm) (c j : Nat) (v : Int64) : (stL M c j v).1 = M.1 := rfl
theorem stL_rd (M : Mm) (c j : Nat) (v : Int64) (c' j' : Nat) : (stL M c j v).2 c' j' = if c' = c ∧ j' = j then v else M.2 c' j' := by
  unfold stL vp_updL
  by_cases h : c' = c
  · subst h; by_cases h2 : j' = j <;> simp [h2]
  · simp [h]
theorem cpI_rd (M : Mm) (s sp d dp n c' j' : Nat) : (cpI M s sp d dp n).1 c' j' = if c' = d ∧ dp ≤ j' ∧ j' < dp + n then M.1 s (sp + (j' - dp)) else M.1 c' j' := by
  unfold cpI va_cpy
  by_cases h : c' = d
  · subst h; by_cases h2 : dp ≤ j' ∧ j' < dp + n <;> simp [h2]
  · simp [h]
theorem cpI_2 (M : Mm) (s sp d dp n : Nat) : (cpI M s sp d dp n).2 = M.2 := rfl
theorem itr_ex {σ ρ : Type} (body : σ → Option (σ ⊕ ρ)) (I : Nat → σ → Prop) (Q : ρ → Prop) (N : Nat)
    (hs : ∀ i s, i ≤ N → I i s → (∃ s', body s = some (.inl s') ∧ i < N ∧ I (i + 1) s') ∨ (∃ r, body s = some (.inr r) ∧ Q r)) :
    ∀ (k i : Nat) (s : σ), i ≤ N → I i s → N - i < k → ∃ r, itr body k s = some r ∧ Q r := by
  intro k
  induction k with
  | zero => intro i s _ _ h; omega
  | succ k ih =>
    intro i s hi h hk
    rcases hs i s hi h with ⟨s', e, hl, h'⟩ | ⟨r, e, hq⟩
    · obtain ⟨r, e2, hq⟩ := ih (i + 1) s' hl h' (by omega)
      exact ⟨r, by simp [itr, e, e2], hq⟩
    · exact ⟨r, by simp [itr, e], hq⟩
/-- a loop from its start: N rounds at most, 1000 are enough -/
theorem itr_0 {σ ρ : Type} {body : σ → Option (σ ⊕ ρ)} (I : Nat → σ → Prop) (Q : ρ → Prop) (N : Nat) {s : σ} (hN : N < 1000) (h0 : I 0 s)
    (hs : ∀ i s, i ≤ N → I i s → (∃ s', body s = some (.inl s') ∧ i < N ∧ I (i + 1) s') ∨ (∃ r, body s = some (.inr r) ∧ Q r)) : ∃ r, itr body 1000 s = some r ∧ Q r :=
  itr_ex body I Q N hs 1000 0 s (Nat.zero_le _) h0 (by omega)
/-! ===== the relation of a state of the class with a row of the reference ===== -/
def blk (M : Mm) (c : Nat) : Nat → Nat → Int32 := fun k j => M.1 (c + k) j
def SRn (n t d e k : Nat) (s : Nat → Nat → Int32) (z : Nat → Int32) : Prop :=
  (1 ≤ n ∧ n ≤ 3 ∧ t ≤ 10 ∧ d ≤ 8 ∧ e ≤ 4 ∧ k ≤ 6) ∧ (s 0 0 = nI n ∧ z 0 = nI n) ∧ (s 1 0 = nI t ∧ z 1 = nI t) ∧ (s 7 0 = nI d ∧ z 2 = nI d) ∧ (s 10 1 = nI (2 ^ e) ∧ z 3 = nI e) ∧ (s 10 6 = nI k ∧ z 10 = nI k)
def SRs (d : Nat) (s : Nat → Nat → Int32) (z : Nat → Int32) : Prop :=
  (s 0 1 = z 4 ∧ s 0 2 = z 5 ∧ s 10 2 = z 6 ∧ s 10 3 = z 7 ∧ s 10 4 = z 8 ∧ s 10 5 = z 9 ∧ s 10 8 = z 11) ∧ (z 4 = 0 ∨ z 4 = 1 ∨ z 4 = 2) ∧ (z 5 = 0 ∨ z 5 = 1) ∧ (z 11 = 0 ∨ z 11 = 1) ∧ (z 9 = -1 ∨ ∃ l, l < d ∧ z 9 = nI l)
def SRb (s : Nat → Nat → Int32) (z : Nat → Int32) : Prop :=
  ∀ v, v < 3 → s 5 v = z (12 + v) ∧ s 6 v = z (15 + v) ∧ s 11 v = z (18 + v) ∧ -50 ≤ (z (12 + v)).toInt ∧ (z (15 + v)).toInt ≤ 50
def tOK (z : Nat → Int32) (i : Nat) : Prop := (-99 ≤ (z (21 + 4 * i)).toInt ∧ (z (21 + 4 * i)).toInt ≤ 99) ∧ ∃ p q r : Nat, p + q + r ≤ 4 ∧ z (21 + 4 * i + 1) = nI p ∧ z (21 + 4 * i + 2) = nI q ∧ z (21 + 4 * i + 3) = nI r
def SRt (t : Nat) (s : Nat → Nat → Int32) (z : Nat → Int32) : Prop :=
  ∀ i, i < t → s 2 i = z (21 + 4 * i) ∧ (s 3 (3 * i) = z (21 + 4 * i + 1) ∧ s 3 (3 * i + 1) = z (21 + 4 * i + 2) ∧ s 3 (3 * i + 2) = z (21 + 4 * i + 3)) ∧ tOK z i
def dOK (n : Nat) (z : Nat → Int32) (i : Nat) : Prop := (∀ v, v < 3 → -3 ≤ (z (61 + 4 * i + v)).toInt ∧ (z (61 + 4 * i + v)).toInt ≤ 3 ∧ (n ≤ v → z (61 + 4 * i + v) = 0)) ∧ ¬ (z (61 + 4 * i) = 0 ∧ z (61 + 4 * i + 1) = 0 ∧ z (61 + 4 * i + 2) = 0)
def SRd (n d : Nat) (s : Nat → Nat → Int32) (z : Nat → Int32) : Prop :=
  ∀ i, i < d → s 9 i = z (61 + 4 * i + 3) ∧ (s 8 (3 * i) = z (61 + 4 * i) ∧ s 8 (3 * i + 1) = z (61 + 4 * i + 1) ∧ s 8 (3 * i + 2) = z (61 + 4 * i + 2)) ∧ dOK n z i
def SRl (k : Nat) (s : Nat → Nat → Int32) (z : Nat → Int32) : Prop := ∀ i, i < 3 * k → s 12 i = z (93 + i)
def SR (s : Nat → Nat → Int32) (z : Nat → Int32) : Prop := ∃ n t d e k : Nat, SRn n t d e k s z ∧ SRs d s z ∧ SRb s z ∧ SRt t s z ∧ SRd n d s z ∧ SRl k s z
/-- the places of a class' state that count -/
def sIn (k j : Nat) : Prop := (k = 0 ∧ j < 3) ∨ (k = 1 ∧ j = 0) ∨ (k = 2 ∧ j < 10) ∨ (k = 3 ∧ j < 30) ∨ (k = 5 ∧ j < 3) ∨ (k = 6 ∧ j < 3) ∨ (k = 7 ∧ j = 0) ∨ (k = 8 ∧ j < 24) ∨ (k = 9 ∧ j < 8) ∨ (k = 10 ∧ 1 ≤ j ∧ j < 9 ∧ j ≠ 7) ∨ (k = 11 ∧ j < 3) ∨ (k = 12 ∧ j < 18)
/-- the flags of all states that may be copied are 0 or 1 -/
def ER (M : Mm) : Prop := (∀ i, i < 4 → M.1 (25 + 13 * i) 8 = 0 ∨ M.1 (25 + 13 * i) 8 = 1) ∧ (M.1 77 8 = 0 ∨ M.1 77 8 = 1)
/-- between two numbers; whether a place is allowed, out of a row z at 96 -/
def fX11_in (w0 : Int32) (w1 : Int32) (w2 : Int32) : Option (Int32) :=
(if w0 < w1 then some 0 else (if w2 < w0 then some 0 else some 1))
def fX11_isAllowed (M : Mm) (w1 : Int32) (w2 : Int32) (w3 : Int32) : Option (Int32) :=
b1 (fX11_in w1 (M.1 96 12) (M.1 96 15)) fun x2 =>
(if x2 = 0 then
some 0
else
b1 (fX11_in w2 (M.1 96 13) (M.1 96 16)) fun x5 =>
(if x5 = 0 then
some 0
else
b1 (fX11_in w3 (M.1 96 14) (M.1 96 17)) fun x8 =>
(if x8 = 0 then
some 0
else
some 1)))
def fX11_isHereAllowed (M : Mm) : Option (Int32) :=
b1 (fX11_isAllowed M (M.1 96 18) (M.1 96 19) (M.1 96 20)) fun x2 =>
gd (x2 = 0 ∨ x2 = 1) <|
some x2
/-! ===== answers that change nothing ===== -/
theorem b1_s {α β : Type} (a : α) (k : α → Option β) : b1 (some a) k = k a := rfl
theorem b2_s {α β γ : Type} (a : α) (b : β) (k : α → β → Option γ) : b2 (some (a, b)) k = k a b := rfl
theorem b3_s {α β γ δ : Type} (a : α) (b : β) (c : γ) (k : α → β → γ → Option δ) : b3 (some (a, b, c)) k = k a b c := rfl
theorem gd_t {α : Type} {c : Prop} [Decidable c] (h : c) (x : Option α) : gd c x = x := if_pos h
theorem within_in : fX10_within = fX11_in := rfl
theorem in_any (w a b : Int32) : fX11_in w a b = some (if a.toInt ≤ w.toInt ∧ w.toInt ≤ b.toInt then 1 else 0) := by
  unfold fX11_in
  by_cases h1 : w < a
  · rw [if_pos h1, if_neg]; rw [Int32.lt_iff_toInt_lt] at h1; omega
  · rw [if_neg h1]
    by_cases h2 : b < w
    · rw [if_pos h2, if_neg]; rw [Int32.lt_iff_toInt_lt] at h2; omega
    · rw [if_neg h2, if_pos]; rw [Int32.lt_iff_toInt_lt] at h1 h2; omega
/-- inside 0 and N: a number, or not at all -/
theorem in_n (w : Int32) (N : Nat) (hN : N < 2147483648) : fX11_in w 0 (nI N) = some 0 ∨ ∃ v, v ≤ N ∧ w = nI v ∧ fX11_in w 0 (nI N) = some 1 := by
  rw [in_any, tin hN]
  by_cases h : (0 : Int32).toInt ≤ w.toInt ∧ w.toInt ≤ (N : Int)
  · right
    obtain ⟨v, h1, h2⟩ := nI_of (x := w) (by rw [Int32.lt_iff_toInt_lt]; omega)
    refine ⟨v, ?_, h2, by rw [if_pos h]⟩
    have h3 := h.2
    rw [h2, tin h1] at h3
    omega
  · left; rw [if_neg h]
theorem neg_or (w : Int32) : w < 0 ∨ ∃ i, i < 2147483648 ∧ w = nI i ∧ ¬ w < 0 := by
  by_cases h : w < 0
  · exact Or.inl h
  · obtain ⟨i, h1, h2⟩ := nI_of h; exact Or.inr ⟨i, h1, h2, h⟩
theorem le0_iff (w : Int32) : 0 ≤ w ↔ ¬ w < 0 := by
  rw [Int32.lt_iff_toInt_lt, Int32.le_iff_toInt_le]; constructor <;> intro h <;> omega
theorem shl1 {e : Nat} (h : e ≤ 4) : (1 : Int32) <<< (nI e &&& 31) = nI (2 ^ e) := by
  rcases (show e = 0 ∨ e = 1 ∨ e = 2 ∨ e = 3 ∨ e = 4 by omega) with rfl | rfl | rfl | rfl | rfl <;> decide
theorem oneIf_z {x : Int32} (h : x = 0 ∨ x = 1) : fX10_oneIf x = some x := by rcases h with rfl | rfl <;> rfl
theorem ltn {i t : Nat} (hi : i < 2147483648) (ht : t < 2147483648) (h : i < t) : nI i < nI t := (nlt hi ht).mpr h
theorem gen {i t : Nat} (hi : i < 2147483648) (ht : t < 2147483648) (h : t ≤ i) : nI t ≤ nI i := (nle ht hi).mpr h
theorem nltn {i t : Nat} (hi : i < 2147483648) (ht : t < 2147483648) (h : t ≤ i) : ¬ nI i < nI t := fun q => by have := (nlt hi ht).mp q; omega
theorem ngen {i t : Nat} (hi : i < 2147483648) (ht : t < 2147483648) (h : i < t) : ¬ nI t ≤ nI i := fun q => by have := (nle ht hi).mp q; omega
theorem in_z (w a b : Int32) : fX11_in w a b = some 0 ∨ fX11_in w a b = some 1 := by
  rw [in_any]; by_cases h : a.toInt ≤ w.toInt ∧ w.toInt ≤ b.toInt
  · right; rw [if_pos h]
  · left; rw [if_neg h]
theorem i10 {α : Type} (a b : α) : (if (1 : Int32) = 0 then a else b) = b := if_neg (by decide)
theorem i00 {α : Type} (a b : α) : (if (0 : Int32) = 0 then a else b) = a := if_pos rfl
/-! ===== copies of states; the history, the snapshot ===== -/
/-! rules: a function answers, and its answer is as wanted -/
theorem bd_st {β : Type} {M : Mm} {c j : Nat} {x : Int32} {k : Mm → Option β} {Q : β → Prop} (h : ∀ v : Mm, (∀ c' j', v.1 c' j' = if c' = c ∧ j' = j then x else M.1 c' j') → v.2 = M.2 → ∃ r, k v = some r ∧ Q r) : ∃ r, bd (stI M c j x) k = some r ∧ Q r := h _ (fun c' j' => stI_rd M c j x c' j') rfl
theorem bd_sl {β : Type} {M : Mm} {c j : Nat} {x : Int64} {k : Mm → Option β} {Q : β → Prop} (h : ∀ v : Mm, (∀ c' j', v.2 c' j' = if c' = c ∧ j' = j then x else M.2 c' j') → v.1 = M.1 → ∃ r, k v = some r ∧ Q r) : ∃ r, bd (stL M c j x) k = some r ∧ Q r := h _ (fun c' j' => stL_rd M c j x c' j') rfl
theorem bd_cp {β : Type} {M : Mm} {s sp d dp n : Nat} {k : Mm → Option β} {Q : β → Prop} (h : ∀ v : Mm, (∀ c' j', v.1 c' j' = if c' = d ∧ dp ≤ j' ∧ j' < dp + n then M.1 s (sp + (j' - dp)) else M.1 c' j') → v.2 = M.2 → ∃ r, k v = some r ∧ Q r) : ∃ r, bd (cpI M s sp d dp n) k = some r ∧ Q r := h _ (fun c' j' => cpI_rd M s sp d dp n c' j') rfl
theorem bd_v {α β : Type} {e : α} {k : α → Option β} {Q : β → Prop} (h : ∀ v, v = e → ∃ r, k v = some r ∧ Q r) : ∃ r, bd e k = some r ∧ Q r := h e rfl
theorem b1_x {α β : Type} {x : Option α} {k : α → Option β} {P : α → Prop} {Q : β → Prop} (h : ∃ v, x = some v ∧ P v) (h2 : ∀ v, P v → ∃ r, k v = some r ∧ Q r) : ∃ r, b1 x k = some r ∧ Q r := by
  obtain ⟨v, e, p⟩ := h
  rw [e]; exact h2 v p
theorem gd_x {β : Type} {c : Prop} [Decidable c] {x : Option β} {Q : β → Prop} (h : c) (h2 : ∃ r, x = some r ∧ Q r) : ∃ r, gd c x = some r ∧ Q r := by rw [gd_t h]; exact h2
theorem if_x {β : Type} {c : Prop} [Decidable c] {a b : Option β} {Q : β → Prop} (h1 : c → ∃ r, a = some r ∧ Q r) (h2 : ¬ c → ∃ r, b = some r ∧ Q r) : ∃ r, (if c then a else b) = some r ∧ Q r := by
  by_cases h : c
  · rw [if_pos h]; exact h1 h
  · rw [if_neg h]; exact h2 h
theorem cp7 {c o : Nat} (M : Mm) (hd : c + 3 ≤ o ∨ o + 3 ≤ c) : ∃ M', fX7_copyFrom c o M = some M' ∧ M'.1 c 0 = M.1 o 0 ∧ (∀ j, j < 10 → M'.1 (c + 1) j = M.1 (o + 1) j) ∧ (∀ j, j < 30 → M'.1 (c + 2) j = M.1 (o + 2) j) ∧ ∀ c' j, c' < c ∨ c + 3 ≤ c' → M'.1 c' j = M.1 c' j := by
  refine bd_st fun M1 r1 _ => bd_cp fun M2 r2 _ => bd_cp fun M3 r3 _ => ⟨M3, rfl, ?_, fun j hj => ?_, fun j hj => ?_, fun c' j h => ?_⟩
  · rw [r3, if_neg (by omega), r2, if_neg (by omega), r1, if_pos (by omega)]
  · rw [r3, if_neg (by omega), r2, if_pos (by omega), r1, if_neg (by omega)]; exact congrArg _ (by omega)
  · rw [r3, if_pos (by omega), r2, if_neg (by omega), r1, if_neg (by omega)]; exact congrArg _ (by omega)
  · rw [r3, if_neg (by omega), r2, if_neg (by omega), r1, if_neg (by omega)]
theorem cp0 {c o : Nat} (M : Mm) (hd : c + 3 ≤ o ∨ o + 3 ≤ c) : ∃ M', fX0_copyFrom c o M = some M' ∧ (∀ j, j < 3 → M'.1 (c + 1) j = M.1 (o + 1) j) ∧ (∀ j, j < 3 → M'.1 (c + 2) j = M.1 (o + 2) j) ∧ ∀ c' j, c' < c ∨ c + 3 ≤ c' → M'.1 c' j = M.1 c' j := by
  refine bd_cp fun M2 r2 _ => bd_cp fun M3 r3 _ => ⟨M3, rfl, fun j hj => ?_, fun j hj => ?_, fun c' j h => ?_⟩
  · rw [r3, if_neg (by omega), r2, if_pos (by omega)]; exact congrArg _ (by omega)
  · rw [r3, if_pos (by omega), r2, if_neg (by omega)]; exact congrArg _ (by omega)
  · rw [r3, if_neg (by omega), r2, if_neg (by omega)]
theorem cp1 {c o : Nat} (M : Mm) (hd : c + 3 ≤ o ∨ o + 3 ≤ c) : ∃ M', fX1_copyFrom c o M = some M' ∧ M'.1 c 0 = M.1 o 0 ∧ (∀ j, j < 24 → M'.1 (c + 1) j = M.1 (o + 1) j) ∧ (∀ j, j < 8 → M'.1 (c + 2) j = M.1 (o + 2) j) ∧ ∀ c' j, c' < c ∨ c + 3 ≤ c' → M'.1 c' j = M.1 c' j := by
  refine bd_st fun M1 r1 _ => bd_cp fun M2 r2 _ => bd_cp fun M3 r3 _ => ⟨M3, rfl, ?_, fun j hj => ?_, fun j hj => ?_, fun c' j h => ?_⟩
  · rw [r3, if_neg (by omega), r2, if_neg (by omega), r1, if_pos (by omega)]
  · rw [r3, if_neg (by omega), r2, if_pos (by omega), r1, if_neg (by omega)]; exact congrArg _ (by omega)
  · rw [r3, if_pos (by omega), r2, if_neg (by omega), r1, if_neg (by omega)]; exact congrArg _ (by omega)
  · rw [r3, if_neg (by omega), r2, if_neg (by omega), r1, if_neg (by omega)]
theorem cp4 {c o : Nat} (M : Mm) (hd : c + 3 ≤ o ∨ o + 3 ≤ c) (he : M.1 o 8 = 0 ∨ M.1 o 8 = 1) : ∃ M', fX4_copyFrom c o M = some M' ∧ (∀ j, 1 ≤ j → j < 9 → j ≠ 7 → M'.1 c j = M.1 o j) ∧ (∀ j, j < 3 → M'.1 (c + 1) j = M.1 (o + 1) j) ∧ (∀ j, j < 18 → M'.1 (c + 2) j = M.1 (o + 2) j) ∧ ∀ c' j, c' < c ∨ c + 3 ≤ c' → M'.1 c' j = M.1 c' j := by
  refine bd_cp fun M1 r1 _ => bd_st fun M2 r2 _ => bd_st fun M3 r3 _ => bd_st fun M4 r4 _ => bd_st fun M5 r5 _ => bd_st fun M6 r6 _ => bd_st fun M7 r7 _ => bd_cp fun M8 r8 _ => ?_
  have o8 : ∀ c' j, c' < c ∨ c + 3 ≤ c' → M8.1 c' j = M.1 c' j := fun c' j h => by
    rw [r8, if_neg (by omega), r7, if_neg (by omega), r6, if_neg (by omega), r5, if_neg (by omega), r4, if_neg (by omega), r3, if_neg (by omega), r2, if_neg (by omega), r1, if_neg (by omega)]
  have q1 : ∀ j, M1.1 o j = M.1 o j := fun j => by rw [r1, if_neg (by omega)]
  have q2 : ∀ j, M2.1 o j = M.1 o j := fun j => by rw [r2, if_neg (by omega), q1]
  have q3 : ∀ j, M3.1 o j = M.1 o j := fun j => by rw [r3, if_neg (by omega), q2]
  have q4 : ∀ j, M4.1 o j = M.1 o j := fun j => by rw [r4, if_neg (by omega), q3]
  have q5 : ∀ j, M5.1 o j = M.1 o j := fun j => by rw [r5, if_neg (by omega), q4]
  have q6 : ∀ j, M6.1 o j = M.1 o j := fun j => by rw [r6, if_neg (by omega), q5]
  refine gd_x (by rw [o8 o 8 (by omega)]; exact he) (bd_st fun M9 r9 _ => ⟨M9, rfl, fun j h1 h2 h3 => ?_, fun j hj => ?_, fun j hj => ?_, fun c' j h => ?_⟩)
  · rw [r9]
    by_cases e8 : j = 8
    · rw [if_pos (by omega), o8 o 8 (by omega), e8]
    rw [if_neg (by omega), r8, if_neg (by omega), r7]
    by_cases e6 : j = 6
    · rw [if_pos (by omega), q6, e6]
    rw [if_neg (by omega), r6]
    by_cases e5 : j = 5
    · rw [if_pos (by omega), q5, e5]
    rw [if_neg (by omega), r5]
    by_cases e4 : j = 4
    · rw [if_pos (by omega), q4, e4]
    rw [if_neg (by omega), r4]
    by_cases e3 : j = 3
    · rw [if_pos (by omega), q3, e3]
    rw [if_neg (by omega), r3]
    by_cases e2 : j = 2
    · rw [if_pos (by omega), q2, e2]
    rw [if_neg (by omega), r2, if_pos (by omega), q1, show j = 1 by omega]
  · rw [r9, if_neg (by omega), r8, if_neg (by omega), r7, if_neg (by omega), r6, if_neg (by omega), r5, if_neg (by omega), r4, if_neg (by omega), r3, if_neg (by omega), r2, if_neg (by omega), r1, if_pos (by omega)]; exact congrArg _ (by omega)
  · rw [r9, if_neg (by omega), r8, if_pos (by omega), r7, if_neg (by omega), r6, if_neg (by omega), r5, if_neg (by omega), r4, if_neg (by omega), r3, if_neg (by omega), r2, if_neg (by omega), r1, if_neg (by omega)]; exact congrArg _ (by omega)
  · rw [r9, if_neg (by omega), o8 c' j h]
theorem cp6 {c o : Nat} (M : Mm) (hd : c + 13 ≤ o ∨ o + 13 ≤ c) (he : M.1 (o + 10) 8 = 0 ∨ M.1 (o + 10) 8 = 1) : ∃ M', fX6_copyFrom c o M = some M' ∧ (∀ k j, sIn k j → M'.1 (c + k) j = M.1 (o + k) j) ∧ ∀ c' j, c' < c ∨ c + 13 ≤ c' → M'.1 c' j = M.1 c' j := by
  obtain ⟨M0, e0⟩ : ∃ M0, M0 = stI (stI (stI M c 0 (M.1 o 0)) c 1 (M.1 o 1)) c 2 (M.1 o 2) := ⟨_, rfl⟩
  have a0 : ∀ j, j < 3 → M0.1 c j = M.1 o j := fun j hj => by
    rw [e0, stI_rd, stI_rd, stI_rd]
    rcases (show j = 0 ∨ j = 1 ∨ j = 2 by omega) with rfl | rfl | rfl
    · rw [if_neg (by omega), if_neg (by omega), if_pos (by omega)]
    · rw [if_neg (by omega), if_pos (by omega)]
    · rw [if_pos (by omega)]
  have b0 : ∀ c' j, c' ≠ c → M0.1 c' j = M.1 c' j := fun c' j h => by rw [e0]; simp (disch := omega) only [stI_rd, if_neg]
  obtain ⟨M1, f1, a1, a2, a3, b1'⟩ := cp7 (c := c + 1) (o := o + 1) M0 (by omega)
  obtain ⟨M2, f2, a5, a6, b2'⟩ := cp0 (c := c + 4) (o := o + 4) M1 (by omega)
  obtain ⟨M3, f3, a7, a8, a9, b3'⟩ := cp1 (c := c + 7) (o := o + 7) M2 (by omega)
  have keep : ∀ k j, k < 13 → 10 ≤ k → M3.1 (o + k) j = M.1 (o + k) j := fun k j h1 h2 => by
    rw [b3' _ _ (by omega), b2' _ _ (by omega), b1' _ _ (by omega), b0 _ _ (by omega)]
  obtain ⟨M4, f4, a10, a11, a12, b4'⟩ := cp4 (c := c + 10) (o := o + 10) M3 (by omega) (by rw [keep 10 8 (by omega) (by omega)]; exact he)
  refine ⟨M4, ?_, fun k j h => ?_, fun c' j h => ?_⟩
  · unfold fX6_copyFrom bd
    have r1 : (stI M c 0 (M.1 o 0)).1 o 1 = M.1 o 1 := by simp (disch := omega) only [stI_rd, if_neg]
    have r2 : (stI (stI M c 0 (M.1 o 0)) c 1 (M.1 o 1)).1 o 2 = M.1 o 2 := by simp (disch := omega) only [stI_rd, if_neg]
    simp only [r1, r2, ← e0, f1, b1_s, f2, f3, f4]
  · rcases h with ⟨rfl, h⟩ | ⟨rfl, rfl⟩ | ⟨rfl, h⟩ | ⟨rfl, h⟩ | ⟨rfl, h⟩ | ⟨rfl, h⟩ | ⟨rfl, rfl⟩ | ⟨rfl, h⟩ | ⟨rfl, h⟩ | ⟨rfl, h1, h2, h3⟩ | ⟨rfl, h⟩ | ⟨rfl, h⟩
    · rw [b4' _ _ (by omega), b3' _ _ (by omega), b2' _ _ (by omega), b1' _ _ (by omega)]; exact a0 j h
    · rw [b4' _ _ (by omega), b3' _ _ (by omega), b2' _ _ (by omega), a1, b0 _ _ (by omega)]
    · rw [b4' _ _ (by omega), b3' _ _ (by omega), b2' _ _ (by omega)]
      exact (a2 j h).trans (b0 _ _ (by omega))
    · rw [b4' _ _ (by omega), b3' _ _ (by omega), b2' _ _ (by omega)]
      exact (a3 j h).trans (b0 _ _ (by omega))
    · rw [b4' _ _ (by omega), b3' _ _ (by omega)]
      refine (a5 j h).trans ?_
      rw [b1' _ _ (by omega), b0 _ _ (by omega)]
    · rw [b4' _ _ (by omega), b3' _ _ (by omega)]
      refine (a6 j h).trans ?_
      rw [b1' _ _ (by omega), b0 _ _ (by omega)]
    · rw [b4' _ _ (by omega), a7, b2' _ _ (by omega), b1' _ _ (by omega), b0 _ _ (by omega)]
    · rw [b4' _ _ (by omega)]
      refine (a8 j h).trans ?_
      rw [b2' _ _ (by omega), b1' _ _ (by omega), b0 _ _ (by omega)]
    · rw [b4' _ _ (by omega)]
      refine (a9 j h).trans ?_
      rw [b2' _ _ (by omega), b1' _ _ (by omega), b0 _ _ (by omega)]
    · exact (a10 j h1 h2 h3).trans (keep 10 j (by omega) (by omega))
    · exact (a11 j h).trans (keep 11 j (by omega) (by omega))
    · exact (a12 j h).trans (keep 12 j (by omega) (by omega))
  · rw [b4' _ _ (by omega), b3' _ _ (by omega), b2' _ _ (by omega), b1' _ _ (by omega), b0 _ _ (by omega)]
/-- the class records its state -/
theorem pushX {M : Mm} (hE : ER M) (he : M.1 11 8 = 0 ∨ M.1 11 8 = 1) {h : Nat} (hh : M.1 14 0 = nI h) (h4 : h ≤ 4) : ∃ M', fX2_push M = some M' ∧ (∀ k j, sIn k j → M'.1 (15 + k) j = M.1 (1 + k) j) ∧ (∀ i, i < 3 → ∀ k j, sIn k j → M'.1 (28 + 13 * i + k) j = M.1 (15 + 13 * i + k) j) ∧ M'.1 14 0 = nI (min (h + 1) 4) ∧ (∀ j, j ≠ 0 → M'.1 14 j = M.1 14 j) ∧ ∀ c j, c < 14 ∨ 67 ≤ c → M'.1 c j = M.1 c j := by
  obtain ⟨M1, f1, a1, b1'⟩ := cp6 (c := 54) (o := 41) M (by omega) (hE.1 2 (by omega))
  obtain ⟨M2, f2, a2, b2'⟩ := cp6 (c := 41) (o := 28) M1 (by omega) (by rw [b1' _ _ (by omega)]; exact hE.1 1 (by omega))
  obtain ⟨M3, f3, a3, b3'⟩ := cp6 (c := 28) (o := 15) M2 (by omega) (by rw [b2' _ _ (by omega), b1' _ _ (by omega)]; exact hE.1 0 (by omega))
  obtain ⟨M4, f4, a4, b4'⟩ := cp6 (c := 15) (o := 1) M3 (by omega) (by rw [b3' _ _ (by omega), b2' _ _ (by omega), b1' _ _ (by omega)]; exact he)
  have low : ∀ c j, c < 15 ∨ 67 ≤ c → M4.1 c j = M.1 c j := fun c j q => by rw [b4' _ _ (by omega), b3' _ _ (by omega), b2' _ _ (by omega), b1' _ _ (by omega)]
  have e14 : M4.1 14 0 = nI h := (low 14 0 (by omega)).trans hh
  refine ⟨stI M4 14 0 (nI (min (h + 1) 4)), ?_, fun k j hk => ?_, fun i hi k j hk => ?_, ?_, fun j hj => ?_, fun c j q => ?_⟩
  · unfold fX2_push bd
    rw [f1, b1_s, f2, b1_s, f3, b1_s, f4, b1_s, e14, nI_1]
    rcases (show h < 4 ∨ h = 4 by omega) with q | rfl
    · rw [if_neg (show ¬ 4 < nI (h + 1) from nltn (i := 4) (t := h + 1) (by omega) (by omega) (by omega)), show min (h + 1) 4 = h + 1 by omega]
    · rfl
  · have : k < 13 := by unfold sIn at hk; omega
    rw [stI_rd, if_neg (by omega), a4 k j hk, b3' _ _ (by omega), b2' _ _ (by omega), b1' _ _ (by omega)]
  · have : k < 13 := by unfold sIn at hk; omega
    rw [stI_rd, if_neg (by omega)]
    rcases (show i = 0 ∨ i = 1 ∨ i = 2 by omega) with rfl | rfl | rfl
    · show M4.1 (28 + k) j = M.1 (15 + k) j
      rw [b4' _ _ (by omega), a3 k j hk, b2' _ _ (by omega), b1' _ _ (by omega)]
    · show M4.1 (41 + k) j = M.1 (28 + k) j
      rw [b4' _ _ (by omega), b3' _ _ (by omega), a2 k j hk, b1' _ _ (by omega)]
    · show M4.1 (54 + k) j = M.1 (41 + k) j
      rw [b4' _ _ (by omega), b3' _ _ (by omega), b2' _ _ (by omega), a1 k j hk]
  · rw [stI_rd, if_pos ⟨rfl, rfl⟩]
  · rw [stI_rd, if_neg (by omega), low 14 j (by omega)]
  · rw [stI_rd, if_neg (by omega), low c j (by omega)]
/-! ===== order, bound, texts, snapshot, undo ===== -/
theorem SRb.cong {s s' : Nat → Nat → Int32} {z z' : Nat → Int32} (h : SRb s z) (hs : ∀ v, v < 3 → s' 5 v = s 5 v ∧ s' 6 v = s 6 v ∧ s' 11 v = s 11 v) (hz : ∀ j, 12 ≤ j → j < 21 → z' j = z j) : SRb s' z' := fun v hv => by
  obtain ⟨a, b, c⟩ := hs v hv
  rw [a, b, c, hz (12 + v) (by omega) (by omega), hz (15 + v) (by omega) (by omega), hz (18 + v) (by omega) (by omega)]
  exact h v hv
theorem SRt.cong {t : Nat} {s s' : Nat → Nat → Int32} {z z' : Nat → Int32} (h : SRt t s z) (ht : t ≤ 10) (hs : ∀ i, i < 10 → s' 2 i = s 2 i) (hs2 : ∀ i, i < 30 → s' 3 i = s 3 i) (hz : ∀ j, 21 ≤ j → j < 61 → z' j = z j) : SRt t s' z' := fun i hi => by
  have q := h i hi
  unfold tOK at q ⊢
  rw [hs i (by omega), hs2 (3 * i) (by omega), hs2 (3 * i + 1) (by omega), hs2 (3 * i + 2) (by omega), hz (21 + 4 * i) (by omega) (by omega), hz (21 + 4 * i + 1) (by omega) (by omega), hz (21 + 4 * i + 2) (by omega) (by omega), hz (21 + 4 * i + 3) (by omega) (by omega)]
  exact q
theorem dOK.cong {n i : Nat} {z z' : Nat → Int32} (h : dOK n z i) (hz : ∀ j, 61 + 4 * i ≤ j → j < 64 + 4 * i → z' j = z j) : dOK n z' i := by
  unfold dOK at h ⊢
  rw [hz (61 + 4 * i) (by omega) (by omega), hz (61 + 4 * i + 1) (by omega) (by omega), hz (61 + 4 * i + 2) (by omega) (by omega)]
  refine ⟨fun v hv => ?_, h.2⟩
  rw [hz (61 + 4 * i + v) (by omega) (by omega)]
  exact h.1 v hv
theorem SRd.cong {n d : Nat} {s s' : Nat → Nat → Int32} {z z' : Nat → Int32} (h : SRd n d s z) (hd : d ≤ 8) (hs : ∀ i, i < 8 → s' 9 i = s 9 i) (hs2 : ∀ i, i < 24 → s' 8 i = s 8 i) (hz : ∀ j, 61 ≤ j → j < 93 → z' j = z j) : SRd n d s' z' := fun i hi => by
  have q := h i hi
  rw [hs i (by omega), hs2 (3 * i) (by omega), hs2 (3 * i + 1) (by omega), hs2 (3 * i + 2) (by omega), hz (61 + 4 * i) (by omega) (by omega), hz (61 + 4 * i + 1) (by omega) (by omega), hz (61 + 4 * i + 2) (by omega) (by omega), hz (61 + 4 * i + 3) (by omega) (by omega)]
  exact ⟨q.1, q.2.1, q.2.2.cong (fun j h1 h2 => hz j (by omega) (by omega))⟩
theorem SRl.cong {k : Nat} {s s' : Nat → Nat → Int32} {z z' : Nat → Int32} (h : SRl k s z) (hk : k ≤ 6) (hs : ∀ i, i < 18 → s' 12 i = s 12 i) (hz : ∀ j, 93 ≤ j → j < 111 → z' j = z j) : SRl k s' z' := fun i hi => by
  rw [hs i (by omega), hz (93 + i) (by omega) (by omega)]; exact h i hi
/-! ===== bound, type, keep, restore, undo ===== -/
theorem SRs.cong {d : Nat} {s s' : Nat → Nat → Int32} {z z' : Nat → Int32} (h : SRs d s z) (e1 : s' 0 1 = s 0 1) (e2 : s' 0 2 = s 0 2) (hs : ∀ j, j = 2 ∨ j = 3 ∨ j = 4 ∨ j = 5 ∨ j = 8 → s' 10 j = s 10 j) (hz : ∀ j, 4 ≤ j → j < 12 → j ≠ 10 → z' j = z j) : SRs d s' z' := by
  unfold SRs at h ⊢
  rw [e1, e2, hs 2 (by omega), hs 3 (by omega), hs 4 (by omega), hs 5 (by omega), hs 8 (by omega), hz 4 (by omega) (by omega) (by omega), hz 5 (by omega) (by omega) (by omega), hz 6 (by omega) (by omega) (by omega), hz 7 (by omega) (by omega) (by omega), hz 8 (by omega) (by omega) (by omega), hz 9 (by omega) (by omega) (by omega), hz 11 (by omega) (by omega) (by omega)]
  exact h
theorem SRn.cong {n t d e k : Nat} {s s' : Nat → Nat → Int32} {z z' : Nat → Int32} (h : SRn n t d e k s z) (a : s' 0 0 = s 0 0) (b : s' 1 0 = s 1 0) (c : s' 7 0 = s 7 0) (f : s' 10 1 = s 10 1) (g : s' 10 6 = s 10 6) (hz : ∀ j, j < 4 ∨ j = 10 → z' j = z j) : SRn n t d e k s' z' := by
  unfold SRn at h ⊢
  rw [a, b, c, f, g, hz 0 (by omega), hz 1 (by omega), hz 2 (by omega), hz 3 (by omega), hz 10 (by omega)]
  exact h
abbrev alw (z : Nat → Int32) (x y w : Int32) : Prop := ((z 12).toInt ≤ x.toInt ∧ x.toInt ≤ (z 15).toInt) ∧ ((z 13).toInt ≤ y.toInt ∧ y.toInt ≤ (z 16).toInt) ∧ ((z 14).toInt ≤ w.toInt ∧ w.toInt ≤ (z 17).toInt)
theorem allowM (M : Mm) (x y w : Int32) : fX11_isAllowed M x y w = some (if alw (M.1 96) x y w then 1 else 0) := by
  unfold fX11_isAllowed
  rw [in_any, b1_s]
  by_cases h1 : (M.1 96 12).toInt ≤ x.toInt ∧ x.toInt ≤ (M.1 96 15).toInt
  · rw [if_pos h1, i10, in_any, b1_s]
    by_cases h2 : (M.1 96 13).toInt ≤ y.toInt ∧ y.toInt ≤ (M.1 96 16).toInt
    · rw [if_pos h2, i10, in_any, b1_s]
      by_cases h3 : (M.1 96 14).toInt ≤ w.toInt ∧ w.toInt ≤ (M.1 96 17).toInt
      · rw [if_pos h3, i10, if_pos ⟨h1, h2, h3⟩]
      · rw [if_neg h3, i00, if_neg (fun q => h3 q.2.2)]
    · rw [if_neg h2, i00, if_neg (fun q => h2 q.2.1)]
  · rw [if_neg h1, i00, if_neg (fun q => h1 q.1)]
theorem allowX {M M' : Mm} (h : SRb (blk M 1) (M'.1 96)) (x y w : Int32) : fX0_allow M x y w = fX11_isAllowed M' x y w := by
  have q0 := h 0 (by omega)
  have q1 := h 1 (by omega)
  have q2 := h 2 (by omega)
  have a0 : M.1 6 0 = M'.1 96 12 := q0.1
  have a1 : M.1 6 1 = M'.1 96 13 := q1.1
  have a2 : M.1 6 2 = M'.1 96 14 := q2.1
  have b0 : M.1 7 0 = M'.1 96 15 := q0.2.1
  have b1 : M.1 7 1 = M'.1 96 16 := q1.2.1
  have b2 : M.1 7 2 = M'.1 96 17 := q2.2.1
  unfold fX0_allow fX11_isAllowed
  rw [within_in, a0, a1, a2, b0, b1, b2]
theorem bit_g (c : Prop) [Decidable c] : (if c then (1 : Int32) else 0) = 0 ∨ (if c then (1 : Int32) else 0) = 1 := by
  by_cases h : c
  · right; rw [if_pos h]
  · left; rw [if_neg h]
theorem hereM (M : Mm) : fX11_isHereAllowed M = some (if alw (M.1 96) (M.1 96 18) (M.1 96 19) (M.1 96 20) then 1 else 0) := by
  unfold fX11_isHereAllowed
  rw [allowM, b1_s, gd_t (bit_g _)]
theorem hereX {M M' : Mm} (h : SRb (blk M 1) (M'.1 96)) : fX6_placeIsAllowed M = fX11_isHereAllowed M' := by
  have p0 : M.1 12 0 = M'.1 96 18 := (h 0 (by omega)).2.2.1
  have p1 : M.1 12 1 = M'.1 96 19 := (h 1 (by omega)).2.2.1
  have p2 : M.1 12 2 = M'.1 96 20 := (h 2 (by omega)).2.2.1
  unfold fX6_placeIsAllowed fX11_isHereAllowed
  rw [p0, p1, p2, allowX h]
theorem in_ab (w a b : Int32) : fX11_in w a b = some 0 ∨ (fX11_in w a b = some 1 ∧ a.toInt ≤ w.toInt ∧ w.toInt ≤ b.toInt) := by
  rw [in_any]; by_cases h : a.toInt ≤ w.toInt ∧ w.toInt ≤ b.toInt
  · right; rw [if_pos h]; exact ⟨rfl, h⟩
  · left; rw [if_neg h]
theorem bd_s {α β : Type} (e : α) (k : α → Option β) : bd e k = k e := rfl
