/-! ===== texts: all terms ===== -/
theorem deadTerm {l n : Nat} {ch : Nat → Int32} {MA MB : Mm} (T : Tx l n ch MA MB) {i k : Nat} (hi : i ≤ l) (hk : k < 10) {A A' B B9 : Mm} {sg : Int32} (hc : Cl n i A A') (a3 : A'.1 80 3 = nI i) (a4 : A'.1 80 4 = nI 1) (fa : FA MA A') (sb : BSt B k i) (z : itr (fX11_readTerm_L7 (nI k)) 1000 (1, B) = some B9) (fb9 : FB MB B9) (sb9 : BSt B9 k i) (hd : dgt (ltr l ch i) = false) (hl : ltt (ltr l ch i) = false) : ∃ A' B1 B', Cl n i A A' ∧ fX11_readTerm B sg = some B1 ∧ Ev fX11_readText_L54 (62 - i) B1 B' ∧ FA MA A' ∧ FB MB B' ∧ FinT A' B' := by
  have l60 := T.1
  obtain ⟨B2, eb, b4, b3, bo⟩ := failR sb9.1 1
  have n4 : B2.1 95 14 ≠ 0 := by rw [b4]; decide
  have p2 : B2.1 95 12 = nI i := by rw [bo _ _ (by omega), sb9.2.1]
  have d4 : (stf k sg 1 B2).1 95 14 = nI 1 := by rw [stf_rd, if_neg (by omega), if_neg (by omega), b4]; rfl
  refine ⟨A', stf k sg 1 B2, stf k sg 1 B2, hc, rT_f hk sb.2.2 z (by rw [sb9.2.1, digX T fb9 (by omega), hd, if_neg (by decide)]) (by rw [sb9.2.1, letX T fb9 (by omega)]) hl eb (rN_no T (fb9.cg bo) p2 (by omega) hd) (rL_of (Ev.out (m := 1) (L2_dead _ n4) (by omega)) (by omega)), Ev.out (L54_dead (by rw [d4]; decide)) (by omega), fa, stf_f (fb9.cg bo) k sg _, FinT.dead (q := 1) (by omega) a4 a3 d4 ?_⟩
  rw [stf_rd, if_neg (by omega), if_neg (by omega), b3, sb9.2.1]
theorem termStep {l n : Nat} {ch : Nat → Int32} {MA MB : Mm} (T : Tx l n ch MA MB) {i k : Nat} (hi : i ≤ l) (hk : k < 10) (h45 : i = 0 → 0 < l → ch 0 ≠ 45) (next : ∀ j, i ≤ j → j < l → k + 1 < 10 → TermT l n ch MA MB (j + 1) (k + 1)) : TermT l n ch MA MB i k := by
  intro A B sg hs fa fb sa sb tt
  have l60 := T.1
  obtain ⟨B9, z, z1, z2⟩ := rT_z (B := B) hk
  have fb9 : FB MB B9 := fun c j h => by rw [z2 c j (by omega)]; exact fb c j h
  have sb9 : BSt B9 k i := ⟨by rw [z2 _ _ (by omega)]; exact sb.1, by rw [z2 _ _ (by omega)]; exact sb.2.1, by rw [z2 _ _ (by omega)]; exact sb.2.2⟩
  have tt9 : TTt k A B9 := tt.cg (fun _ _ => rfl) (fun _ _ => rfl) (fun j hj => z2 _ _ (by omega))
  have I0 : InT l n ch MA MB k sg 0 0 i 0 (fun _ => 0) A B9 := ⟨fa, fb9, sa, sb9, z1, tt9, rfl, by omega⟩
  have em : fX8_termIsEmpty A = some 1 := by rw [emptyX sa (by omega) (by omega), if_pos ⟨rfl, rfl⟩]
  by_cases hl : i < l
  case neg =>
    obtain rfl : i = l := by omega
    obtain ⟨A', e, a3, a4, fa'⟩ := setF fa (A.1 80 0) 1
    refine deadTerm T (by omega) hk ⟨A, Ev.out (outC T fa (by omega) (Or.inl (by omega))) (by omega), ?_⟩ (a3.trans ((fa 80 0 (by omega)).trans T.2.1.1)) a4 fa' sb z fb9 sb9 (by unfold ltr; rw [if_neg (by omega)]; rfl) (by unfold ltr; rw [if_neg (by omega)]; rfl)
    rw [if_pos sa.1.1]
    unfold fX8_scanEnd
    rw [em, b1_s, i10, b1_id, e]
  have el : ltr l ch i = ch i := by unfold ltr; rw [if_pos hl]
  rcases chr (ch i) with ⟨v, hv, ev⟩ | ⟨d, hd10, ed⟩ | e43 | e45 | eo
  · have q := vLt v hv
    rw [← ev] at q
    obtain ⟨A', B19, B', e1, e2, e3, f1, f2, f3⟩ := midX T hk (g := 0) (x := 0) (by omega) (by omega) i next (l - i) i 0 _ A B9 (by omega) (by omega) hi I0 (Or.inr (Or.inr ⟨hl, q.1⟩)) (fun _ h => absurd h (by omega))
    exact ⟨A', stf k sg (cx 0 0) B19, B', e1, rT_l hk sb.2.2 z (by rw [sb9.2.1, digX T fb9 (by omega), el, q.2.1, if_neg (by decide)]) (by rw [sb9.2.1, letX T fb9 (by omega), el]) q.1 (rN_no T fb9 sb9.2.1 (by omega) (by rw [el]; exact q.2.1)) (rL_of e2 (by omega)), e3, f1, f2, f3⟩
  · have q := dLt d hd10
    rw [← ed] at q
    have isd : fX11_isDigit B9 (B9.1 95 12) = some 1 := by rw [sb9.2.1, digX T fb9 (by omega), el, q.2.1, if_pos rfl]
    by_cases d0 : d = 0
    · subst d0
      obtain ⟨A', ec, a3, a4, fa'⟩ := faultC T fa sa.1.1 hl (q := 1) (by omega) (by
        rw [ed, scD _ _ _ (by omega)]
        unfold fX8_scanDigit
        rw [sa.1.2.2.2.2.1, sa.1.2.2.1, if_neg (by decide), if_neg (by decide), bd_s, if_pos (show nI 0 = 0 from rfl), if_pos (show nI 0 = 0 from rfl), b1_id]; rfl)
      obtain ⟨B2, eb, b4, b3, bo⟩ := failR sb9.1 1
      have p2 : B2.1 95 12 = nI i := by rw [bo _ _ (by omega), sb9.2.1]
      have fb2 := fb9.cg bo
      obtain ⟨y, B3, eN, fb3, c4, c3⟩ : ∃ y B3, kN B2 = some (y, B3) ∧ FB MB B3 ∧ B3.1 95 14 = nI 1 ∧ B3.1 95 13 = nI i := by
        by_cases hn : i + 1 < l ∧ dgt (ch (i + 1)) = true
        · rcases chr (ch (i + 1)) with ⟨v, hv, ev⟩ | ⟨d2, hd2, ed2⟩ | e43 | e45 | eo
          · rw [ev, (vLt v hv).2.1] at hn; exact absurd hn.2 (by decide)
          · exact ⟨_, _, kN_2 T fb2 p2 hl hd10 ed hn.1 hd2 ed2, (fb2.st _ (by omega)).st _ (by omega), by rw [stI_rd, if_neg (by omega), stI_rd, if_neg (by omega), b4]; rfl, by rw [stI_rd, if_neg (by omega), stI_rd, if_neg (by omega), b3, sb9.2.1]⟩
          · rw [e43] at hn; exact absurd hn.2 (by decide)
          · rw [e45] at hn; exact absurd hn.2 (by decide)
          · rw [eo.2.1] at hn; exact absurd hn.2 (by decide)
        · have hn' : dgt (ltr l ch (i + 1)) = false := by
            unfold ltr
            by_cases h1 : i + 1 < l
            · rw [if_pos h1]
              cases h2 : dgt (ch (i + 1))
              · rfl
              · exact absurd ⟨h1, h2⟩ hn
            · rw [if_neg h1]; rfl
          exact ⟨_, _, kN_1 T fb2 p2 hl hd10 ed hn', fb2.st _ (by omega), by rw [stI_rd, if_neg (by omega), b4]; rfl, by rw [stI_rd, if_neg (by omega), b3, sb9.2.1]⟩
      have n4 : B3.1 95 14 ≠ 0 := by rw [c4]; decide
      have d4 : (stf k sg y B3).1 95 14 = nI 1 := by rw [stf_rd, if_neg (by omega), if_neg (by omega), c4]
      refine ⟨A', stf k sg y B3, stf k sg y B3, ec, rT_d hk sb.2.2 z isd ?_ (rL_of (Ev.out (m := 1) (L2_dead _ n4) (by omega)) (by omega)), Ev.out (L54_dead (by rw [d4]; decide)) (by omega), fa', stf_f fb3 k sg _, FinT.dead (q := 1) (by omega) a4 a3 d4 ?_⟩
      · rw [rN_k T fb9 sb9.2.1 hl hd10 ed, if_pos rfl, eb, b1_s, eN]
      · rw [stf_rd, if_neg (by omega), if_neg (by omega), c3]
    · obtain ⟨A2, e2, sa2, fa2, oa2⟩ := digC fa sa (by omega) (by omega) hd10 (by omega) (nI i)
      rw [show 10 * 0 + d = d by omega] at sa2
      have st1 := stepC T fa sa.1.1 hl ((by rw [ed, scD _ _ _ hd10, e2]) : fX8_scanCharacter A (nI i) (ch i) (nI n) = some A2)
      have tt2 : TTt k A2 B9 := tt9.cg (fun _ _ => oa2 _ _ (by omega)) (fun _ _ => oa2 _ _ (by omega)) (fun _ _ => rfl)
      by_cases hn : i + 1 < l ∧ dgt (ch (i + 1)) = true
      · rcases chr (ch (i + 1)) with ⟨v, hv, ev⟩ | ⟨d2, hd2, ed2⟩ | e43 | e45 | eo
        · rw [ev, (vLt v hv).2.1] at hn; exact absurd hn.2 (by decide)
        · obtain ⟨A3, e3, sa3, fa3, oa3⟩ := digC fa2 sa2 (by omega) hd10 hd2 (by omega) (nI (i + 1))
          have st2 := stepC T fa2 sa2.1.1 hn.1 ((by rw [ed2, scD _ _ _ hd2, e3]) : fX8_scanCharacter A2 (nI (i + 1)) (ch (i + 1)) (nI n) = some A3)
          obtain ⟨B3, eB3⟩ : ∃ B3, B3 = stI (stI B9 95 12 (nI (i + 1))) 95 12 (nI (i + 2)) := ⟨_, rfl⟩
          have rB : ∀ c j, ¬ (c = 95 ∧ j = 12) → B3.1 c j = B9.1 c j := fun c j h => by rw [eB3, stI_rd, if_neg h, stI_rd, if_neg h]
          have I2 : InT l n ch MA MB k sg 2 (10 * d + d2) (i + 2) 0 (fun _ => 0) A3 B3 := ⟨fa3, by rw [eB3]; exact (fb9.st _ (by omega)).st _ (by omega), sa3, ⟨by rw [rB _ _ (by omega)]; exact sb9.1, by rw [eB3, stI_rd, if_pos ⟨rfl, rfl⟩], by rw [rB _ _ (by omega)]; exact sb9.2.2⟩, fun v hv => by rw [rB _ _ (by omega)]; exact z1 v hv, tt2.cg (fun _ _ => oa3 _ _ (by omega)) (fun _ _ => oa3 _ _ (by omega)) (fun _ _ => rB _ _ (by omega)), rfl, by omega⟩
          obtain ⟨A', B19, B', ⟨C, ec, ef⟩, e4, e5, f1, f2, f3⟩ := midX T hk (g := 2) (x := 10 * d + d2) (by omega) (by omega) i next (l - (i + 2)) (i + 2) 0 _ A3 B3 (by omega) (by omega) (by omega) I2 (Or.inl (by omega)) (fun _ h => absurd h (by omega))
          refine ⟨A', stf k sg (cx 2 (10 * d + d2)) B19, B', ⟨C, (Ev.go st1 (Ev.go st2 ec)).le (by omega), ef⟩, rT_d hk sb.2.2 z isd ?_ (rL_of e4 (by omega)), e5.le (by omega), f1, f2, f3⟩
          rw [rN_k T fb9 sb9.2.1 hl hd10 ed, if_neg d0, kN_2 T fb9 sb9.2.1 hl hd10 ed hn.1 hd2 ed2, ← eB3]
          rfl
        · rw [e43] at hn; exact absurd hn.2 (by decide)
        · rw [e45] at hn; exact absurd hn.2 (by decide)
        · rw [eo.2.1] at hn; exact absurd hn.2 (by decide)
      · have hn1 : i + 1 < l → dgt (ch (i + 1)) = false := fun h1 => by
          cases h2 : dgt (ch (i + 1))
          · rfl
          · exact absurd ⟨h1, h2⟩ hn
        have hn' : dgt (ltr l ch (i + 1)) = false := by
          unfold ltr
          by_cases h1 : i + 1 < l
          · rw [if_pos h1]; exact hn1 h1
          · rw [if_neg h1]; rfl
        obtain ⟨B3, eB3⟩ : ∃ B3, B3 = stI B9 95 12 (nI (i + 1)) := ⟨_, rfl⟩
        have rB : ∀ c j, ¬ (c = 95 ∧ j = 12) → B3.1 c j = B9.1 c j := fun c j h => by rw [eB3, stI_rd, if_neg h]
        have I2 : InT l n ch MA MB k sg 1 d (i + 1) 0 (fun _ => 0) A2 B3 := ⟨fa2, by rw [eB3]; exact fb9.st _ (by omega), sa2, ⟨by rw [rB _ _ (by omega)]; exact sb9.1, by rw [eB3, stI_rd, if_pos ⟨rfl, rfl⟩], by rw [rB _ _ (by omega)]; exact sb9.2.2⟩, fun v hv => by rw [rB _ _ (by omega)]; exact z1 v hv, tt2.cg (fun _ _ => rfl) (fun _ _ => rfl) (fun _ _ => rB _ _ (by omega)), rfl, by omega⟩
        obtain ⟨A', B19, B', ⟨C, ec, ef⟩, e4, e5, f1, f2, f3⟩ := midX T hk (g := 1) (x := d) (by omega) (by omega) i next (l - (i + 1)) (i + 1) 0 _ A2 B3 (by omega) (by omega) (by omega) I2 (Or.inl (by omega)) (fun _ _ h => hn1 h)
        refine ⟨A', stf k sg (cx 1 d) B19, B', ⟨C, (Ev.go st1 ec).le (by omega), ef⟩, rT_d hk sb.2.2 z isd ?_ (rL_of e4 (by omega)), e5.le (by omega), f1, f2, f3⟩
        rw [rN_k T fb9 sb9.2.1 hl hd10 ed, if_neg d0, kN_1 T fb9 sb9.2.1 hl hd10 ed hn', ← eB3]
        rfl
  · obtain ⟨A', ec, a3, a4, fa'⟩ := faultC T fa sa.1.1 hl (q := 1) (by omega) (by
      rw [e43, sc43]
      unfold fX8_scanSign
      rw [em, b1_s, i10]
      by_cases h0 : i = 0
      · rw [if_pos (show nI i = 0 by rw [h0]; rfl), if_pos rfl, b1_id]; rfl
      · rw [if_neg (zz0 (by omega) h0), b1_id]; rfl)
    exact deadTerm T hi hk ec a3 a4 fa' sb z fb9 sb9 (by rw [el, e43]; rfl) (by rw [el, e43]; rfl)
  · have h0 : i ≠ 0 := fun h => by subst h; exact h45 rfl hl e45
    obtain ⟨A', ec, a3, a4, fa'⟩ := faultC T fa sa.1.1 hl (q := 1) (by omega) (by
      rw [e45, sc45]
      unfold fX8_scanSign
      rw [em, b1_s, i10, if_neg (zz0 (by omega) h0), b1_id]; rfl)
    exact deadTerm T hi hk ec a3 a4 fa' sb z fb9 sb9 (by rw [el, e45]; rfl) (by rw [el, e45]; rfl)
  · obtain ⟨A', ec, a3, a4, fa'⟩ := faultC T fa sa.1.1 hl (q := 1) (by omega) (scO _ _ _ _ eo)
    exact deadTerm T hi hk ec a3 a4 fa' sb z fb9 sb9 (by rw [el]; exact eo.2.1) (by rw [el]; exact eo.1)
theorem termAll {l n : Nat} {ch : Nat → Int32} {MA MB : Mm} (T : Tx l n ch MA MB) : ∀ (m i k : Nat), l - i ≤ m → i ≤ l → k < 10 → (i = 0 → 0 < l → ch 0 ≠ 45) → TermT l n ch MA MB i k := by
  intro m
  induction m with
  | zero => intro i k h1 h2 h3 h4; exact termStep T h2 h3 h4 (fun j _ _ _ => by omega)
  | succ m ih => intro i k h1 h2 h3 h4; exact termStep T h2 h3 h4 (fun j q1 q2 q3 => ih (j + 1) (k + 1) (by omega) (by omega) q3 (fun q => absurd q (by omega)))
theorem parseX {l n : Nat} {ch : Nat → Int32} {MA MB : Mm} (T : Tx l n ch MA MB) : ∃ A' B', fX8_isFunction MA (nI n) = some (if A'.1 80 4 = 0 then 1 else 0, A') ∧ fX11_readText MB = some B' ∧ FA MA A' ∧ FB MB B' ∧ FinT A' B' := by
  have l60 := T.1
  obtain ⟨A3, eA3⟩ : ∃ A3, A3 = stI (stI (stI MA 82 0 0) 80 3 0) 80 4 0 := ⟨_, rfl⟩
  obtain ⟨A5, e5, ⟨r5, r6, r7, r8, r85⟩, o5⟩ := begX A3 (sg := 0) (Or.inl rfl)
  have fa3 : FA MA A3 := fun c j h => by rw [eA3, stI_rd, if_neg (by omega), stI_rd, if_neg (by omega), stI_rd, if_neg (by omega)]
  have fa5 : FA MA A5 := fun c j h => by rw [o5 c j (by omega) (by omega)]; exact fa3 c j h
  have sa5 : CSt A5 0 0 0 0 0 (fun _ => 0) := ⟨⟨by rw [o5 _ _ (by omega) (by omega), eA3, stI_rd, if_pos ⟨rfl, rfl⟩], r5, r6, r7, r8, by rw [o5 _ _ (by omega) (by omega), eA3, stI_rd, if_neg (by omega), stI_rd, if_neg (by omega), stI_rd, if_pos ⟨rfl, rfl⟩]; rfl⟩, fun v hv => r85 v hv⟩
  obtain ⟨B3, eB3⟩ : ∃ B3, B3 = stI (stI (stI MB 95 14 0) 95 11 0) 95 12 0 := ⟨_, rfl⟩
  have fb3 : FB MB B3 := fun c j h => by rw [eB3, stI_rd, if_neg (by omega), stI_rd, if_neg (by omega), stI_rd, if_neg (by omega)]
  have b14 : B3.1 95 14 = 0 := by rw [eB3, stI_rd, if_neg (by omega), stI_rd, if_neg (by omega), stI_rd, if_pos ⟨rfl, rfl⟩]
  have b11 : B3.1 95 11 = nI 0 := by rw [eB3, stI_rd, if_neg (by omega), stI_rd, if_pos ⟨rfl, rfl⟩]; rfl
  have b12 : B3.1 95 12 = 0 := by rw [eB3, stI_rd, if_pos ⟨rfl, rfl⟩]
  have tt0 : ∀ A B, TTt 0 A B := fun A B i hi => absurd hi (by omega)
  have fin : ∀ A', Cl n 0 A5 A' → fX8_isFunction MA (nI n) = some (if A'.1 80 4 = 0 then 1 else 0, A') := by
    rintro A' ⟨C, ec, ef⟩
    unfold fX8_isFunction
    have ec' : itr (fX8_isFunction_L25 (nI n)) 1000 (0, A5) = some C := ec 1000 (by omega)
    rw [bd_s, bd_s, bd_s, ← eA3, e5, b1_s, ec', b1_s]
    by_cases h : C.1 80 4 = 0
    · rw [if_pos h] at ef
      rw [if_pos h, ef, b1_s]
      by_cases h2 : A'.1 80 4 = 0
      · rw [if_pos h2, if_pos h2]
      · rw [if_neg h2, if_neg h2]
    · rw [if_neg h] at ef
      obtain rfl := Option.some.inj ef
      rw [if_neg h, if_neg h, if_neg h]
  have ref : ∀ (sg x : Int32) (B1 B' : Mm), (bd (fun (x8 : Int32) => bd (fun (x11 : Int32) => bd (stI B3 95 12 ((B3.1 95 12) + x11)) fun M12 => b1 (fX11_readTerm M12 x8) fun M14 => b1 (itr (fX11_readText_L54) 1000 M14) fun M40 => some M40) fun k9 => (if x8 = 0 then k9 0 else k9 1)) fun k6 => (if ltr l ch 0 = 45 then k6 1 else k6 0)) = some B' → fX11_readText MB = some B' := by
    intro sg x B1 B' h
    unfold fX11_readText
    rw [bd_s, bd_s, bd_s, ← eB3, show (0 : Int32) = nI 0 from rfl, letX T fb3 (by omega), b1_s]
    exact h
  by_cases h : 0 < l ∧ ch 0 = 45
  · obtain ⟨A6, eA6⟩ : ∃ A6, A6 = stI A5 80 5 1 := ⟨_, rfl⟩
    have r : ∀ c j, ¬ (c = 80 ∧ j = 5) → A6.1 c j = A5.1 c j := fun c j h => by rw [eA6, stI_rd, if_neg h]
    have sa6 : CSt A6 0 1 0 0 0 (fun _ => 0) := by
      obtain ⟨⟨s4, s5, s6, s7, s8, s9⟩, sp⟩ := sa5
      exact ⟨⟨by rw [r _ _ (by omega), s4], by rw [eA6, stI_rd, if_pos ⟨rfl, rfl⟩], by rw [r _ _ (by omega), s6], by rw [r _ _ (by omega), s7], by rw [r _ _ (by omega), s8], by rw [r _ _ (by omega), s9]⟩, fun v hv => by rw [r _ _ (by omega), sp v hv]⟩
    have st1 := stepC (A2 := A6) T fa5 sa5.1.1 h.1 (by
      rw [h.2, sc45]
      unfold fX8_scanSign
      rw [emptyX sa5 (by omega) (by omega), if_pos ⟨rfl, rfl⟩, b1_s, i10, if_pos (show nI 0 = 0 from rfl), if_neg (by decide), bd_s, eA6])
    obtain ⟨A', B1, B', ⟨C, ec, ef⟩, er, ev, f1, f2, f3⟩ := termAll T l 1 0 (by omega) (by omega) (by omega) (fun q => absurd q (by omega)) A6 (stI B3 95 12 (nI 1)) 1 (Or.inr rfl) (fun c j h => by rw [r c j (by omega)]; exact fa5 c j h) (fb3.st _ (by omega)) sa6 ⟨by rw [stI_rd, if_neg (by omega), b14], by rw [stI_rd, if_pos ⟨rfl, rfl⟩], by rw [stI_rd, if_neg (by omega), b11]⟩ (tt0 _ _)
    refine ⟨A', B', fin A' ⟨C, (Ev.go st1 ec).le (by omega), ef⟩, ref 0 0 B1 B' ?_, f1, f2, f3⟩
    have e0 : ltr l ch 0 = 45 := by unfold ltr; rw [if_pos h.1, h.2]
    rw [bd_s, if_pos e0]
    dsimp only
    rw [bd_s, if_neg (by decide)]
    dsimp only
    rw [b12, bd_s]
    show (b1 (fX11_readTerm (stI B3 95 12 (nI 1)) 1) fun M14 => b1 (itr (fX11_readText_L54) 1000 M14) fun M40 => some M40) = some B'
    rw [er, b1_s, ev 1000 (by omega), b1_s]
  · obtain ⟨A', B1, B', ec, er, ev, f1, f2, f3⟩ := termAll T l 0 0 (by omega) (by omega) (by omega) (fun _ q e => h ⟨q, e⟩) A5 (stI B3 95 12 (nI 0)) 0 (Or.inl rfl) fa5 (fb3.st _ (by omega)) sa5 ⟨by rw [stI_rd, if_neg (by omega), b14], by rw [stI_rd, if_pos ⟨rfl, rfl⟩], by rw [stI_rd, if_neg (by omega), b11]⟩ (tt0 _ _)
    refine ⟨A', B', fin A' ec, ref 0 0 B1 B' ?_, f1, f2, f3⟩
    have e0 : ltr l ch 0 ≠ 45 := by
      unfold ltr
      by_cases q : 0 < l
      · rw [if_pos q]; exact fun e => h ⟨q, e⟩
      · rw [if_neg q]; decide
    rw [bd_s, if_neg e0]
    dsimp only
    rw [bd_s, if_pos rfl]
    dsimp only
    rw [b12, bd_s]
    show (b1 (fX11_readTerm (stI B3 95 12 (nI 0)) 0) fun M14 => b1 (itr (fX11_readText_L54) 1000 M14) fun M40 => some M40) = some B'
    rw [er, b1_s, ev 1000 (by omega), b1_s]
