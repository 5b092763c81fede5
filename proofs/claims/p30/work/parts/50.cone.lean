/-! ===== directions in a half space: whole numbers ===== -/
def dti (N r : Nat → Int) : Int := N 0 * r 0 + N 1 * r 1 + N 2 * r 2
def cri (a b : Nat → Int) (v : Nat) : Int := if v = 0 then a 1 * b 2 - a 2 * b 1 else if v = 1 then a 2 * b 0 - a 0 * b 2 else a 0 * b 1 - a 1 * b 0
def nzi (N : Nat → Int) : Prop := ¬ (N 0 = 0 ∧ N 1 = 0 ∧ N 2 = 0)
theorem lagr (n0 n1 n2 v0 v1 v2 r0 r1 r2 : Int) : (n0 * n0 + n1 * n1 + n2 * n2) * (v0 * r0 + v1 * r1 + v2 * r2) - (n0 * r0 + n1 * r1 + n2 * r2) * (v0 * n0 + v1 * n1 + v2 * n2) = (n1 * v2 - n2 * v1) * (n1 * r2 - n2 * r1) + (n2 * v0 - n0 * v2) * (n2 * r0 - n0 * r2) + (n0 * v1 - n1 * v0) * (n0 * r1 - n1 * r0) := by grind
theorem crcr (a0 a1 a2 b0 b1 b2 v0 v1 v2 : Int) : ((a2 * b0 - a0 * b2) * v2 - (a0 * b1 - a1 * b0) * v1 = b0 * (v0 * a0 + v1 * a1 + v2 * a2) - a0 * (v0 * b0 + v1 * b1 + v2 * b2)) ∧ ((a0 * b1 - a1 * b0) * v0 - (a1 * b2 - a2 * b1) * v2 = b1 * (v0 * a0 + v1 * a1 + v2 * a2) - a1 * (v0 * b0 + v1 * b1 + v2 * b2)) ∧ ((a1 * b2 - a2 * b1) * v1 - (a2 * b0 - a0 * b2) * v0 = b2 * (v0 * a0 + v1 * a1 + v2 * a2) - a2 * (v0 * b0 + v1 * b1 + v2 * b2)) := by
  refine ⟨?_, ?_, ?_⟩ <;> grind
theorem det4 (v0 v1 v2 a0 a1 a2 x0 x1 x2 y0 y1 y2 w0 w1 w2 : Int) :
    (v0 * y0 + v1 * y1 + v2 * y2) * ((a1 * x2 - a2 * x1) * w0 + (a2 * x0 - a0 * x2) * w1 + (a0 * x1 - a1 * x0) * w2) = (v0 * x0 + v1 * x1 + v2 * x2) * ((a1 * y2 - a2 * y1) * w0 + (a2 * y0 - a0 * y2) * w1 + (a0 * y1 - a1 * y0) * w2) + (v0 * w0 + v1 * w1 + v2 * w2) * ((a1 * x2 - a2 * x1) * y0 + (a2 * x0 - a0 * x2) * y1 + (a0 * x1 - a1 * x0) * y2) - (v0 * a0 + v1 * a1 + v2 * a2) * ((x1 * y2 - x2 * y1) * w0 + (x2 * y0 - x0 * y2) * w1 + (x0 * y1 - x1 * y0) * w2) := by grind
theorem det_sw (a0 a1 a2 x0 x1 x2 y0 y1 y2 : Int) : (a1 * x2 - a2 * x1) * y0 + (a2 * x0 - a0 * x2) * y1 + (a0 * x1 - a1 * x0) * y2 = -((a1 * y2 - a2 * y1) * x0 + (a2 * y0 - a0 * y2) * x1 + (a0 * y1 - a1 * y0) * x2) := by grind
theorem sq_pos {x y z : Int} (h : ¬ (x = 0 ∧ y = 0 ∧ z = 0)) : 0 < x * x + y * y + z * z := by
  have sq : ∀ w : Int, 0 ≤ w * w := fun w => by
    rcases Int.le_total 0 w with q | q
    · exact Int.mul_nonneg q q
    · exact Int.mul_nonneg_of_nonpos_of_nonpos q q
  have a := sq x
  have b := sq y
  have c := sq z
  by_cases hx : x = 0
  · by_cases hy : y = 0
    · have hz : z ≠ 0 := fun w => h ⟨hx, hy, w⟩
      have : z * z ≠ 0 := fun w => hz ((Int.mul_eq_zero.mp w).elim id id)
      omega
    · have : y * y ≠ 0 := fun w => hy ((Int.mul_eq_zero.mp w).elim id id)
      omega
  · have : x * x ≠ 0 := fun w => hx ((Int.mul_eq_zero.mp w).elim id id)
    omega
theorem cri_0 (a b : Nat → Int) : cri a b 0 = a 1 * b 2 - a 2 * b 1 := rfl
theorem cri_1 (a b : Nat → Int) : cri a b 1 = a 2 * b 0 - a 0 * b 2 := rfl
theorem cri_2 (a b : Nat → Int) : cri a b 2 = a 0 * b 1 - a 1 * b 0 := rfl
/-- det of three rows changes its sign -/
theorem dti_sw (a x y : Nat → Int) : dti (cri a x) y = -(dti (cri a y) x) := by
  unfold dti; rw [cri_0, cri_1, cri_2, cri_0, cri_1, cri_2]; exact det_sw ..
theorem dti_self (a x : Nat → Int) : dti (cri a x) a = 0 ∧ dti (cri a x) x = 0 := by
  unfold dti; rw [cri_0, cri_1, cri_2]; constructor <;> grind
theorem cri_flip (a b : Nat → Int) (v : Nat) : cri b a v = -(cri a b v) := by
  unfold cri
  by_cases h : v = 0
  · rw [if_pos h, if_pos h]; grind
  · rw [if_neg h, if_neg h]
    by_cases h1 : v = 1
    · rw [if_pos h1, if_pos h1]; grind
    · rw [if_neg h1, if_neg h1]; grind
theorem dti_flip (a b r : Nat → Int) : dti (cri b a) r = -(dti (cri a b) r) := by
  unfold dti; rw [cri_flip a b, cri_flip a b, cri_flip a b]; grind
theorem nzi_flip {a b : Nat → Int} (h : nzi (cri a b)) : nzi (cri b a) := fun q => h (by
  rw [cri_flip a b, cri_flip a b, cri_flip a b] at q
  exact ⟨by omega, by omega, by omega⟩)
/-- one of finitely many, by an order that is total and goes on -/
theorem max_ex (P : Nat → Prop) (R : Nat → Nat → Prop) (tot : ∀ k l, P k → P l → R k l ∨ R l k) (tr : ∀ k l q, P k → P l → P q → R k l → R l q → R k q) : ∀ m, (∃ k, k < m ∧ P k) → ∃ K, K < m ∧ P K ∧ ∀ l, l < m → P l → R l K := by
  intro m
  induction m with
  | zero => rintro ⟨k, hk, -⟩; omega
  | succ m ih =>
    rintro ⟨k, hk, pk⟩
    by_cases h : ∃ k, k < m ∧ P k
    · obtain ⟨K, hK, pK, aK⟩ := ih h
      by_cases pm : P m
      · rcases tot K m pK pm with q | q
        · refine ⟨m, by omega, pm, fun l hl pl => ?_⟩
          rcases Nat.lt_or_ge l m with w | w
          · exact tr l K m pl pK pm (aK l w pl) q
          · rw [show l = m by omega]
            rcases tot m m pm pm with z | z <;> exact z
        · refine ⟨K, by omega, pK, fun l hl pl => ?_⟩
          rcases Nat.lt_or_ge l m with w | w
          · exact aK l w pl
          · rw [show l = m by omega]; exact q
      · refine ⟨K, by omega, pK, fun l hl pl => ?_⟩
        rcases Nat.lt_or_ge l m with w | w
        · exact aK l w pl
        · exact absurd (by rw [show m = l by omega]; exact pl) pm
    · have ekm : k = m := by
        rcases Nat.lt_or_ge k m with w | w
        · exact absurd ⟨k, w, pk⟩ h
        · omega
      subst ekm
      refine ⟨k, by omega, pk, fun l hl pl => ?_⟩
      rcases Nat.lt_or_ge l k with w | w
      · exact absurd ⟨l, w, pl⟩ h
      · rw [show l = k by omega]
        rcases tot k k pk pk with z | z <;> exact z
/-- two directions whose plane has all on one side -/
def Sided (p : Nat → Nat → Int) (m : Nat) : Prop := ∃ i j, i < j ∧ j < m ∧ nzi (cri (p i) (p j)) ∧ ((∀ r, r < m → dti (cri (p i) (p j)) (p r) ≤ 0) ∨ ∀ r, r < m → 0 ≤ dti (cri (p i) (p j)) (p r))
theorem Sided.of {p : Nat → Nat → Int} {m i j : Nat} (hi : i < m) (hj : j < m) (h : nzi (cri (p i) (p j))) (s : (∀ r, r < m → dti (cri (p i) (p j)) (p r) ≤ 0) ∨ ∀ r, r < m → 0 ≤ dti (cri (p i) (p j)) (p r)) : Sided p m := by
  rcases Nat.lt_trichotomy i j with q | q | q
  · exact ⟨i, j, q, hj, h, s⟩
  · subst q
    exact absurd ⟨by rw [cri_0]; grind, by rw [cri_1]; grind, by rw [cri_2]; grind⟩ h
  · refine ⟨j, i, q, hi, nzi_flip h, ?_⟩
    rcases s with s | s
    · right; intro r hr; have := s r hr; rw [dti_flip]; omega
    · left; intro r hr; have := s r hr; rw [dti_flip]; omega
theorem ilg (a b : Int) : a < b ∨ b ≤ a := by omega
theorem mz0 {a x : Int} (ha : a ≠ 0) (h : a * x = 0) : x = 0 := (Int.mul_eq_zero.mp h).resolve_left ha
/-- rows that are multiples of a row that isn't 0 are multiples of one another -/
theorem par {a b c : Nat → Int} (ha : nzi a) (h1 : ¬ nzi (cri a b)) (h2 : ¬ nzi (cri a c)) : ¬ nzi (cri b c) := by
  unfold nzi at *
  have h1 := Classical.not_not.mp h1
  have h2 := Classical.not_not.mp h2
  rw [cri_0, cri_1, cri_2] at h1 h2
  intro q
  apply q
  rw [cri_0, cri_1, cri_2]
  obtain ⟨x1, x2, x3⟩ := h1
  obtain ⟨y1, y2, y3⟩ := h2
  by_cases a0 : a 0 = 0
  · by_cases a1 : a 1 = 0
    · have a2 : a 2 ≠ 0 := fun w => ha ⟨a0, a1, w⟩
      refine ⟨?_, ?_, ?_⟩ <;> (refine mz0 a2 ?_) <;> grind
    · refine ⟨?_, ?_, ?_⟩ <;> (refine mz0 a1 ?_) <;> grind
  · refine ⟨?_, ?_, ?_⟩ <;> (refine mz0 a0 ?_) <;> grind
/-- a half space with a row on its edge -/
theorem tight {p : Nat → Nat → Int} {m : Nat} {v : Nat → Int} (hv : nzi v) (hle : ∀ i, i < m → dti v (p i) ≤ 0) (hr : ∃ i j, i < j ∧ j < m ∧ nzi (cri (p i) (p j))) {i1 : Nat} (h1 : i1 < m) (ht : dti v (p i1) = 0) (hn : nzi (p i1)) : Sided p m := by
  by_cases hA : ∃ k, k < m ∧ nzi (cri (p i1) (p k)) ∧ dti v (p k) = 0
  · obtain ⟨k, hk, nk, tk⟩ := hA
    refine Sided.of h1 hk nk ?_
    -- v is along the normal
    have c := crcr (p i1 0) (p i1 1) (p i1 2) (p k 0) (p k 1) (p k 2) (v 0) (v 1) (v 2)
    have e1 : v 0 * p i1 0 + v 1 * p i1 1 + v 2 * p i1 2 = 0 := ht
    have e2 : v 0 * p k 0 + v 1 * p k 1 + v 2 * p k 2 = 0 := tk
    rw [e1, e2, Int.mul_zero, Int.mul_zero, Int.sub_zero, Int.mul_zero, Int.mul_zero, Int.sub_zero, Int.mul_zero, Int.mul_zero, Int.sub_zero, ← cri_0 (p i1) (p k), ← cri_1 (p i1) (p k), ← cri_2 (p i1) (p k)] at c
    obtain ⟨N, eN⟩ : ∃ N, N = cri (p i1) (p k) := ⟨_, rfl⟩
    rw [← eN] at c nk ⊢
    have key : ∀ r : Nat → Int, (N 0 * N 0 + N 1 * N 1 + N 2 * N 2) * dti v r = dti N r * dti v N := fun r => by
      have l := lagr (N 0) (N 1) (N 2) (v 0) (v 1) (v 2) (r 0) (r 1) (r 2)
      rw [c.1, c.2.1, c.2.2, Int.zero_mul, Int.zero_mul, Int.zero_mul] at l
      unfold dti; omega
    have pN := sq_pos nk
    have kv := key v
    have pv : 0 < dti v v := sq_pos hv
    have nv : dti v N ≠ 0 := fun w => by
      rw [w, Int.mul_zero] at kv
      have := Int.mul_pos pN pv
      omega
    rcases Int.lt_or_gt_of_ne nv with q | q
    · right
      intro r hr
      have k1 := key (p r)
      have k2 := Int.mul_nonpos_of_nonneg_of_nonpos (Int.le_of_lt pN) (hle r hr)
      rw [k1] at k2
      rcases ilg (dti N (p r)) 0 with w | w
      · have := Int.mul_pos_of_neg_of_neg w q; omega
      · exact w
    · left
      intro r hr
      have k1 := key (p r)
      have k2 := Int.mul_nonpos_of_nonneg_of_nonpos (Int.le_of_lt pN) (hle r hr)
      rw [k1] at k2
      rcases ilg 0 (dti N (p r)) with w | w
      · have := Int.mul_pos w q; omega
      · exact w
  · have neg : ∀ k, k < m → nzi (cri (p i1) (p k)) → dti v (p k) < 0 := fun k hk nk => by
      have := hle k hk
      rcases ilg (dti v (p k)) 0 with w | w
      · exact w
      · exact absurd ⟨k, hk, nk, by omega⟩ hA
    have ex : ∃ k, k < m ∧ (k < m ∧ nzi (cri (p i1) (p k))) := by
      obtain ⟨i, j, hij, hj, h⟩ := hr
      by_cases q : nzi (cri (p i1) (p i))
      · exact ⟨i, by omega, by omega, q⟩
      · by_cases q2 : nzi (cri (p i1) (p j))
        · exact ⟨j, hj, hj, q2⟩
        · exact absurd h (par hn q q2)
    obtain ⟨K, -, ⟨hK, pK⟩, aK⟩ := max_ex (fun k => k < m ∧ nzi (cri (p i1) (p k))) (fun k l => 0 ≤ dti (cri (p i1) (p k)) (p l)) (fun k l _ _ => by
      show 0 ≤ dti (cri (p i1) (p k)) (p l) ∨ 0 ≤ dti (cri (p i1) (p l)) (p k)
      have := dti_sw (p i1) (p k) (p l)
      omega) (fun k l q pk pl pq h1 h2 => by
      show 0 ≤ dti (cri (p i1) (p k)) (p q)
      have d := det4 (v 0) (v 1) (v 2) (p i1 0) (p i1 1) (p i1 2) (p k 0) (p k 1) (p k 2) (p l 0) (p l 1) (p l 2) (p q 0) (p q 1) (p q 2)
      have e1 : v 0 * p i1 0 + v 1 * p i1 1 + v 2 * p i1 2 = 0 := ht
      rw [e1, Int.zero_mul, Int.sub_zero] at d
      have d : dti v (p l) * dti (cri (p i1) (p k)) (p q) = dti v (p k) * dti (cri (p i1) (p l)) (p q) + dti v (p q) * dti (cri (p i1) (p k)) (p l) := d
      have n1 := neg k pk.1 pk.2
      have n2 := neg l pl.1 pl.2
      have n3 := neg q pq.1 pq.2
      have w1 := Int.mul_nonpos_of_nonpos_of_nonneg (Int.le_of_lt n1) h2
      have w2 := Int.mul_nonpos_of_nonpos_of_nonneg (Int.le_of_lt n3) h1
      rcases ilg (dti (cri (p i1) (p k)) (p q)) 0 with w | w
      · have := Int.mul_pos_of_neg_of_neg n2 w; omega
      · exact w) m ex
    refine Sided.of h1 hK pK (Or.inl fun r hr => ?_)
    rw [dti_sw]
    by_cases q : nzi (cri (p i1) (p r))
    · have := aK r hr ⟨hr, q⟩
      have this : 0 ≤ dti (cri (p i1) (p r)) (p K) := this
      omega
    · have q := Classical.not_not.mp q
      unfold dti
      rw [q.1, q.2.1, q.2.2]
      omega
/-- all rows in a half space: two of them bar the others -/
theorem halfspace {p : Nat → Nat → Int} {m : Nat} {v : Nat → Int} (hv : nzi v) (hle : ∀ i, i < m → dti v (p i) ≤ 0) (hr : ∃ i j, i < j ∧ j < m ∧ nzi (cri (p i) (p j))) : Sided p m := by
  by_cases hT : ∃ i, i < m ∧ dti v (p i) = 0 ∧ nzi (p i)
  · obtain ⟨i, h1, h2, h3⟩ := hT
    exact tight hv hle hr h1 h2 h3
  have neg : ∀ k, k < m → nzi (p k) → dti v (p k) < 0 := fun k hk nk => by
    have := hle k hk
    rcases ilg (dti v (p k)) 0 with w | w
    · exact w
    · exact absurd ⟨k, hk, by omega, nk⟩ hT
  obtain ⟨i, j, hij, hj, h⟩ := id hr
  obtain ⟨u, eu⟩ : ∃ u, u = cri (p i) (p j) := ⟨_, rfl⟩
  by_cases hs : ∀ r, r < m → dti u (p r) ≤ 0
  · exact ⟨i, j, hij, hj, h, Or.inl (by rw [← eu]; exact hs)⟩
  have ex : ∃ k, k < m ∧ (k < m ∧ 0 < dti u (p k)) := by
    refine Classical.byContradiction fun w => hs fun r hr => ?_
    rcases ilg 0 (dti u (p r)) with q | q
    · exact absurd ⟨r, hr, hr, q⟩ w
    · exact q
  have nzp : ∀ k, 0 < dti u (p k) → nzi (p k) := fun k hk q => by
    unfold dti at hk
    rw [q.1, q.2.1, q.2.2] at hk
    omega
  obtain ⟨K, -, ⟨hK, pK⟩, aK⟩ := max_ex (fun k => k < m ∧ 0 < dti u (p k)) (fun l k => dti v (p l) * dti u (p k) ≤ dti v (p k) * dti u (p l)) (fun k l _ _ => by
    show dti v (p k) * dti u (p l) ≤ dti v (p l) * dti u (p k) ∨ dti v (p l) * dti u (p k) ≤ dti v (p k) * dti u (p l)
    omega) (fun k l q pk pl pq h1 h2 => by
    have h1 : dti v (p k) * dti u (p l) ≤ dti v (p l) * dti u (p k) := h1
    have h2 : dti v (p l) * dti u (p q) ≤ dti v (p q) * dti u (p l) := h2
    show dti v (p k) * dti u (p q) ≤ dti v (p q) * dti u (p k)
    have w1 := Int.mul_le_mul_of_nonneg_right h1 (Int.le_of_lt pq.2)
    have w2 := Int.mul_le_mul_of_nonneg_right h2 (Int.le_of_lt pk.2)
    refine Int.le_of_mul_le_mul_right (a := dti u (p l)) ?_ pl.2
    have c1 : dti v (p k) * dti u (p l) * dti u (p q) = dti v (p k) * dti u (p q) * dti u (p l) := by grind
    have c2 : dti v (p l) * dti u (p k) * dti u (p q) = dti v (p l) * dti u (p q) * dti u (p k) := by grind
    have c3 : dti v (p q) * dti u (p l) * dti u (p k) = dti v (p q) * dti u (p k) * dti u (p l) := by grind
    omega) m ex
  -- the half space that turns until it meets the row K
  have vK := neg K hK (nzp K pK)
  have lin : ∀ r : Nat → Int, dti (fun c => dti u (p K) * v c - dti v (p K) * u c) r = dti u (p K) * dti v r - dti v (p K) * dti u r := fun r => by
    obtain ⟨x, ex⟩ : ∃ x, x = dti u (p K) := ⟨_, rfl⟩
    obtain ⟨y, ey⟩ : ∃ y, y = dti v (p K) := ⟨_, rfl⟩
    rw [← ex, ← ey]
    unfold dti
    grind
  refine tight (v := fun c => dti u (p K) * v c - dti v (p K) * u c) (i1 := K) ?_ (fun r hr => ?_) hr hK ?_ (nzp K pK)
  · intro q
    have di := lin (p i)
    have ni : nzi (p i) := fun w => h ⟨by rw [cri_0, w.2.1, w.2.2]; omega, by rw [cri_1, w.1, w.2.2]; omega, by rw [cri_2, w.1, w.2.1]; omega⟩
    have ui : dti u (p i) = 0 := by rw [eu]; exact (dti_self (p i) (p j)).1
    have z : dti (fun c => dti u (p K) * v c - dti v (p K) * u c) (p i) = 0 := by
      unfold dti at q ⊢
      rw [q.1, q.2.1, q.2.2]; omega
    rw [z, ui, Int.mul_zero, Int.sub_zero] at di
    have := Int.mul_neg_of_pos_of_neg pK (neg i (by omega) ni)
    omega
  · rw [lin]
    rcases ilg 0 (dti u (p r)) with q | q
    · have w : dti v (p r) * dti u (p K) ≤ dti v (p K) * dti u (p r) := aK r hr ⟨hr, q⟩
      rw [Int.mul_comm (dti u (p K))]
      omega
    · have w1 := Int.mul_nonpos_of_nonneg_of_nonpos (Int.le_of_lt pK) (hle r hr)
      have w2 := Int.mul_nonneg_of_nonpos_of_nonpos (Int.le_of_lt vK) q
      omega
  · rw [lin, Int.mul_comm]
    omega
