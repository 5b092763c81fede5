/-! ===== the law's trials to their end; the law's poll ===== -/
theorem bits1 : ∀ m, m < 256 → ∀ i, i < 8 → (((nI m >>> (nI i &&& 31)) &&& 1 = 1) ↔ m.testBit i = true) := by decide +kernel
theorem bs3_r {α β δ γ : Type} (c : δ) (k : α → Option γ) (j : β → Option γ) (l : δ → Option γ) : bs3 (some (.inr (.inr c))) k j l = l c := rfl
theorem trialsL {n t d e k : Nat} {M : Mm} (h : JJ n t d e k M) (p : PA M) {m : Nat} {g : Nat → Nat} (L : TL t d e M m g) {all : Bool} (hw : Way M all) : ∃ M', fL_trials M = some (((100 * nI (chz M t e m g all).2) + (chz M t e m g all).1) + 1, M') ∧ ∀ c j, c < 80 → M'.1 c j = M.1 c j := by
  have ld := h.1.1.2.2.2.1
  have md := L.1
  obtain ⟨mk, M', f, hb, o⟩ := trLoop h p L hw
  have l' : Lo M M' := fun c j q => o c j (by omega)
  have J' := h.lo l'
  obtain ⟨r, f2, hr⟩ := itr_0 (body := fL_trials_L338 M' (nI mk)) (s := (0 : Int32)) (fun i q => q = nI i) (fun r => r = .inr ()) d (by omega) rfl (by
    rintro i _ hi rfl
    rcases Nat.lt_or_ge i d with hl | hl
    · left
      refine ⟨nI (i + 1), ?_, hl, rfl⟩
      have ct := canTryL J' hl
      rw [zM_low l'] at ct
      unfold fL_trials_L338
      rw [cnt_2, b1_s, J'.1.2.2.2.1, if_neg (ngen (by omega) (by omega) hl), ct, b1_s, bd_01]
      have same : (if okz (zM M) e i then (1 : Int32) else 0) = (if ((nI mk >>> (nI i &&& 31)) &&& 1) = 1 then 1 else 0) := by
        by_cases c : okz (zM M) e i
        · rw [if_pos c, if_pos ((bits1 mk hb.1 i (by omega)).mpr ((hb.2 i (by omega)).mpr (L.2.2.2 i hl c)))]
        · rw [if_neg c, if_neg]
          intro q
          obtain ⟨b, b1, b2⟩ := (hb.2 i (by omega)).mp ((bits1 mk hb.1 i (by omega)).mp q)
          have := (L.2.2.1 b b1).2
          rw [b2] at this
          exact c this
      rw [if_pos same, nI_1, bd_s]
    · right
      refine ⟨.inr (), ?_, rfl⟩
      unfold fL_trials_L338
      rw [cnt_2, b1_s, J'.1.2.2.2.1, if_pos (gen (by omega) (by omega) hl)])
  refine ⟨M', ?_, o⟩
  unfold fL_trials
  rw [hereL h p, b1_s, f, bs3_r]
  unfold u4
  dsimp only
  rw [f2, hr, bs_r]
theorem toldF : ∀ c, c < 9 → 0 ≤ ((100 * nI c) + (-1)) + 1 ∧ rm (((100 * nI c) + (-1)) + 1) 100 - 1 = -1 ∧ (((100 * nI c) + (-1)) + 1) / 100 = nI c := by decide +kernel
theorem toldS : ∀ c, c < 9 → ∀ i, i < 8 → 0 ≤ ((100 * nI c) + nI i) + 1 ∧ rm (((100 * nI c) + nI i) + 1) 100 - 1 = nI i ∧ (((100 * nI c) + nI i) + 1) / 100 = nI c := by decide +kernel
theorem szF : ∀ e, e < 5 → nI (2 ^ (e - 1)) = (if nI (2 ^ e) = 1 then 1 else nI (2 ^ e) / 2) ∧ (if e = 0 then (1 : Int32) else 0) = (if nI (2 ^ e) = 1 then 1 else 0) := by decide +kernel
theorem szS : ∀ e, e < 5 → nI (2 ^ (min (e + 1) 4)) = (if nI (2 ^ e) = 16 then 16 else 2 * nI (2 ^ e)) := by decide +kernel
theorem lfS : ∀ k, k < 7 → nI (min (k + 1) 6) = (if 6 ≤ nI k then 6 else nI k + 1) := by decide +kernel
theorem sizeS {β : Type} (f : Int32 → Option β) {e : Nat} (he : e ≤ 4) : (bd f fun k6 => (if nI (2 ^ e) = 1 then k6 0 else (if nI (2 ^ e) = 2 then k6 1 else (if nI (2 ^ e) = 4 then k6 2 else (if nI (2 ^ e) = 8 then k6 3 else k6 4))))) = f (nI e) := by
  rcases (show e = 0 ∨ e = 1 ∨ e = 2 ∨ e = 3 ∨ e = 4 by omega) with rfl | rfl | rfl | rfl | rfl <;> rfl
theorem vs_c2 {z z' : Nat → Int32} (h : ∀ j, 21 ≤ j → j < 61 → z' j = z j) (s : Bool) (x y w : Int32) : ∀ t, t ≤ 10 → vs z' s x y w t = vs z s x y w t := by
  intro t
  induction t with
  | zero => intro _; rfl
  | succ t ih =>
    intro ht
    unfold vs tv
    rw [ih (by omega), h (21 + 4 * t) (by omega) (by omega), h (21 + 4 * t + 1) (by omega) (by omega), h (21 + 4 * t + 2) (by omega) (by omega), h (21 + 4 * t + 3) (by omega) (by omega)]
/-- the law's poll says 1, and the state stays one -/
theorem pollLaw {n t d e k : Nat} {M : Mm} (h : JJ n t d e k M) (hh : HI M) (p : PA M) (hd : 0 < d) : ∃ M' e' k', fL_poll M = some (1, M') ∧ JJ n t d e' k' M' ∧ HI M' ∧ PA M' := by
  obtain ⟨⟨l1, l3, lt, ld, le, lk⟩, -⟩ := h.1
  obtain ⟨m, g, L⟩ := TL.ex h e
  have md := L.1
  obtain ⟨all, hw⟩ := way_ex h.2.1
  obtain ⟨M3, f3, o3⟩ := trialsL h p L hw
  have l3' : Lo M M3 := fun c j q => o3 c j (by omega)
  obtain ⟨x10, M11, f11, hq, v11⟩ := stuckL (h.lo l3') (p.lo l3') le
  have o11 : ∀ c j, c < 80 → M11.1 c j = M.1 c j := fun c j q => (v11 c j (by omega)).trans (o3 c j q)
  have l11 : Lo M M11 := fun c j q => o11 c j (by omega)
  have J11 := h.lo l11
  have P11 := p.lo l11
  have H11 : HI M11 := hh.c (fun c j _ q => o11 c j q)
  obtain ⟨M48, f48, r48, H48, -⟩ := pollC J11 H11 P11 hd (L.lo l11) (hw.lo l11)
  obtain ⟨e', k', J48, P48, -⟩ := r48.st P11
  refine ⟨M48, e', k', ?_, J48, H48, P48⟩
  rw [chz_lo l11] at f48 r48
  obtain ⟨R, eR⟩ : ∃ R, R = chz M t e m g all := ⟨_, rfl⟩
  rw [← eR] at f3 f48 r48
  have cn : R.2 < 9 := by
    have := (ch_b (vlz (zM M) e t) g all m 0 (-1) (vh M t)).2.1
    rw [eR]; unfold chz; omega
  have zz : zM M11 = zM M := zM_low l11
  have hv : vh M11 t = vh M t := vh_lo l11 t
  have H : fL_here M11 = some (up (vh M t)) := by rw [hereL J11 P11, hv]
  have q10 : x10 = 1 ↔ NB t d e M := by
    have : NB t d e M3 ↔ NB t d e M := by unfold NB; rw [zM_low l3', vh_lo l3']
    rcases hq with ⟨q, w⟩ | ⟨q, w⟩
    · exact ⟨fun _ => this.mp w, fun _ => q⟩
    · exact ⟨fun z => absurd (q.symm.trans z) (by decide), fun z => absurd (this.mpr z) w⟩
  have q10' : x10 = 0 ∨ x10 = 1 := hq.o
  have z3 : M3.1 11 1 = nI (2 ^ e) := (l3' 11 1 (by omega)).trans h.1.2.2.2.2.1
  obtain ⟨⟨a2, a4⟩, bb, cc⟩ := r48
  -- what lies ahead of the poll
  have pre : fL_poll M = (if 0 ≤ ((100 * nI R.2) + R.1) + 1 then bd ((rm (((100 * nI R.2) + R.1) + 1) 100) - 1) fun x13 => bd (fun (x30 : Int32) => bd (fun (x33 : Int32) => bd (fun (x36 : Int32) => bd (fun (x39 : Int32) => b1 (fL_here M11) fun y41 => bd (fun (x44 : Int32) => (if x10 = x44 then b2 (fX10_poll M11) fun x47 M48 => (if x47 = x13 then b1 (fX10_searchOf M48 4) fun x51 => (if x51 = (M11.1 11 2 + 1) then b1 (fX10_searchOf M48 6) fun x54 => (if x54 = (M11.1 11 4 + ((((100 * nI R.2) + R.1) + 1) / 100)) then b1 (fX10_searchOf M48 0) fun x57 => (if x57 = x30 then b1 (fX10_searchOf M48 1) fun x60 => (if x60 = x33 then b1 (fX10_searchOf M48 2) fun x63 => (if x63 = x36 then (if 0 ≤ x13 then b1 (fX10_searchOf M48 3) fun x67 => bd (fun (x70 : Int32) => bd (fun (x73 : Int32) => (if x73 = 0 then some ((0 : Int32), M48) else b1 (fX10_directionOf M48 x13 3) fun x76 => (if x76 = (x39 + 1) then b1 (fX10_leftAt M48 0 0) fun x79 => (if x79 = M11.1 12 0 then b1 (fX10_count M48 0) fun x82 => bd (fun (_ : Unit) => b1 (fX10_count M48 0) fun x86 => (if x86 < 3 then some (1, M48) else b1 (fX10_leftAt M48 0 2) fun x89 => (if x89 = M11.1 12 2 then some (1, M48) else some (0, M48)))) fun k83 => (if x82 < 2 then k83 () else b1 (fX10_leftAt M48 0 1) fun x93 => (if x93 = M11.1 12 1 then k83 () else some (0, M48))) else some (0, M48)) else some (0, M48)))) fun k71 => bd (fun (_ : Unit) => k71 0) fun k95 => (if x67 = x70 then b1 (fX10_searchOf M48 5) fun x99 => (if x99 = (M11.1 11 3 + 1) then b1 (fX10_searchOf M48 7) fun x102 => (if x102 = x13 then b1 (fX10_searchOf M48 8) fun x105 => bd (fun (x108 : Int32) => (if x105 = x108 then b1 (fX10_searchOf M48 9) fun x111 => (if x111 = 0 then b1 (fL_here M48) fun y114 => (if 0 ≤ (lg_cmp y114 y41) then k95 () else k71 1) else k95 ()) else k95 ())) fun k106 => (if 6 ≤ M11.1 11 6 then k106 6 else k106 (M11.1 11 6 + 1)) else k95 ()) else k95 ()) else k95 ())) fun k68 => (if nI (2 ^ e) = 16 then k68 16 else k68 (2 * nI (2 ^ e))) else b1 (fX10_searchOf M48 3) fun x119 => bd (fun (x122 : Int32) => (if x119 = x122 then b1 (fX10_searchOf M48 5) fun x125 => (if x125 = M11.1 11 3 then b1 (fX10_searchOf M48 8) fun x128 => (if x128 = M11.1 11 6 then b1 (fX10_searchOf M48 9) fun x131 => bd (fun (x134 : Int32) => (if x131 = x134 then b1 (fL_here M48) fun y137 => (if (lg_cmp y137 y41) = 0 then some (1, M48) else some (0, M48)) else some (0, M48))) fun k132 => (if nI (2 ^ e) = 1 then k132 1 else k132 0) else some (0, M48)) else some (0, M48)) else some (0, M48))) fun k120 => (if nI (2 ^ e) = 1 then k120 1 else k120 (nI (2 ^ e) / 2))) else some (0, M48)) else some (0, M48)) else some (0, M48)) else some (0, M48)) else some (0, M48)) else some (0, M48)) else some (0, M11))) fun k42 => (if 0 ≤ x13 then k42 0 else k42 1)) fun k37 => (if 0 ≤ x13 then b1 (fX10_directionOf M11 x13 3) fun x144 => k37 x144 else k37 0)) fun k34 => (if 0 ≤ x13 then b1 (fL_at M11 x13 2) fun x147 => k34 x147 else k34 (M11.1 12 2))) fun k31 => (if 0 ≤ x13 then b1 (fL_at M11 x13 1) fun x150 => k31 x150 else k31 (M11.1 12 1))) fun k28 => (if 0 ≤ x13 then b1 (fL_at M11 x13 0) fun x153 => k28 x153 else k28 (M11.1 12 0)) else some (0, M11)) := by
    unfold fL_poll
    rw [f3, b2_s, so_3, b1_s, z3, sizeS _ le]
    try dsimp only
    rw [f11, b2_s]
    simp only [so_4 M11, so_5 M11, so_6 M11, so_8 M11, so_0 M11, so_1 M11, so_2 M11, b1_s]
  have k11 : M11.1 11 6 = nI k := J11.1.2.2.2.2.2
  rcases cc with ⟨c1, c2, c3, c4, c5, c6⟩ | ⟨i, c1, c2, s1, s2, s3, s4, s5, ⟨s6, s7, s8, s9⟩, s10, s11⟩
  · have n1 : ¬ (0 : Int32) ≤ -1 := by decide
    have td := toldF R.2 cn
    have e10 : x10 = 1 := q10.mpr (by unfold NB at c2 ⊢; rw [zz, hv] at c2; exact c2)
    have pl : ∀ v, v < 3 → M48.1 12 v = M11.1 12 v := fun v hv => by
      have := congrFun c4 (18 + v)
      rw [zM_pl M48 hv, zM_pl M11 hv] at this; exact this
    have vh48 : vh M48 t = vh M t := by
      rw [← hv]; unfold vh; rw [c4, pl 0 (by omega), pl 1 (by omega), pl 2 (by omega)]
    have H48' : fL_here M48 = some (up (vh M t)) := by rw [hereL J48 P48, vh48]
    rw [c1] at f48
    rw [pre, c1, if_pos td.1, bd_s, td.2.1, td.2.2]
    rw [bd_s, if_neg n1]
    dsimp only
    rw [bd_s, if_neg n1]
    dsimp only
    rw [bd_s, if_neg n1]
    dsimp only
    rw [bd_s, if_neg n1]
    dsimp only
    rw [H, b1_s, bd_s, if_neg n1]
    dsimp only
    rw [e10, if_pos rfl, f48, b2_s, if_pos rfl]
    rw [so_4 M48, b1_s, if_pos a2, so_6 M48, b1_s, if_pos a4, so_0 M48, b1_s, if_pos (pl 0 (by omega)), so_1 M48, b1_s, if_pos (pl 1 (by omega)), so_2 M48, b1_s, if_pos (pl 2 (by omega))]
    rw [if_neg n1, so_3 M48, b1_s, bd_01]
    try dsimp only
    rw [if_pos (c3.1.2.2.2.2.1.trans (szF e (by omega)).1)]
    rw [so_5 M48, b1_s, if_pos c5, so_8 M48, b1_s, if_pos (c3.1.2.2.2.2.2.trans k11.symm), so_9 c3.2.1, b1_s, bd_01]
    try dsimp only
    rw [if_pos (c6.trans (szF e (by omega)).2)]
    rw [H48', b1_s, if_pos ((lg_cmp_eq _ _).mpr rfl)]
  · have td := toldS R.2 cn i (by omega)
    have ge : (0 : Int32) ≤ nI i := gen (t := 0) (by omega) (by omega) (by omega)
    have e10 : x10 = 0 := q10'.resolve_right (fun w => c2 (by
      have := q10.mp w
      rw [zz, hv]; exact this i s1 (by rw [← zz]; exact s2)))
    have at0 : fL_at M11 (nI i) 0 = _ := atL J11 s1 (v := 0) (by omega)
    have at1 : fL_at M11 (nI i) 1 = _ := atL J11 s1 (v := 1) (by omega)
    have at2 : fL_at M11 (nI i) 2 = _ := atL J11 s1 (v := 2) (by omega)
    have vh48 : vh M48 t = vlz (zM M11) e t i := by
      unfold vh vlz
      rw [s5 0 (by omega), s5 1 (by omega), s5 2 (by omega), vs_c2 s11 false _ _ _ t lt]
    have okv : vok (vlz (zM M11) e t i) := vlz_ok J11 s2
    have oky : vok (vh M t) := vh_ok h p
    have H48' : fL_here M48 = some (up (vlz (zM M11) e t i)) := by rw [hereL s3 s4, vh48]
    have so7 : (if M48.1 11 5 = -1 then -1000004 else M48.1 11 5) = nI i := by rw [s7, if_neg (m1_ne (by omega))]
    have k48 := s3.1.2.2.2.2.2
    have la0 : fX10_leftAt M48 0 0 = some (M48.1 13 0) := le_0 (v := 0) s3.1.2.1 l3 k48 (by omega) (by omega) (by omega)
    rw [c1] at f48
    rw [pre, c1, if_pos td.1, bd_s, td.2.1, td.2.2]
    rw [bd_s, if_pos ge, at0, b1_s]
    try dsimp only
    rw [bd_s, if_pos ge, at1, b1_s]
    try dsimp only
    rw [bd_s, if_pos ge, at2, b1_s]
    try dsimp only
    rw [bd_s, if_pos ge, di_3 J11.1.2.2.2.1 ld s1, b1_s]
    try dsimp only
    rw [H, b1_s, bd_s, if_pos ge]
    try dsimp only
    rw [e10, if_pos rfl, f48, b2_s, if_pos rfl]
    rw [so_4 M48, b1_s, if_pos a2, so_6 M48, b1_s, if_pos a4, so_0 M48, b1_s, if_pos (s5 0 (by omega)), so_1 M48, b1_s, if_pos (s5 1 (by omega)), so_2 M48, b1_s, if_pos (s5 2 (by omega))]
    rw [if_pos ge, so_3 M48, b1_s, bd_01]
    try dsimp only
    rw [bd_s, bd_s, if_pos (s3.1.2.2.2.2.1.trans (szS e (by omega))), so_5 M48, b1_s, if_pos s6, so_7 M48, b1_s, if_pos so7, so_8 M48, b1_s, bd_01]
    try dsimp only
    rw [if_pos (k48.trans (by rw [k11]; exact lfS k (by omega))), so_9 s3.2.1, b1_s, if_pos s8, H48', b1_s, if_neg (by rw [up_cmp okv oky, ← hv]; exact c2)]
    try dsimp only
    rw [if_neg (show ¬ (1 : Int32) = 0 by decide), di_3 s3.1.2.2.2.1 ld s1, b1_s, if_pos s9, la0, b1_s, if_pos (s10 0 (by omega)), cnt_0, b1_s, bd_s]
    try dsimp only
    rw [s3.1.2.1]
    rcases (show n = 1 ∨ n = 2 ∨ n = 3 by omega) with rfl | rfl | rfl
    · rw [if_pos (show nI 1 < 2 by decide), b1_s, if_pos (show nI 1 < 3 by decide)]
    · have la1 : fX10_leftAt M48 0 1 = some (M48.1 13 1) := le_0 (v := 1) s3.1.2.1 l3 k48 (by omega) (by omega) (by omega)
      rw [if_neg (show ¬ nI 2 < 2 by decide), la1, b1_s, if_pos (s10 1 (by omega)), b1_s, if_pos (show nI 2 < 3 by decide)]
    · have la1 : fX10_leftAt M48 0 1 = some (M48.1 13 1) := le_0 (v := 1) s3.1.2.1 l3 k48 (by omega) (by omega) (by omega)
      have la2 : fX10_leftAt M48 0 2 = some (M48.1 13 2) := le_0 (v := 2) s3.1.2.1 l3 k48 (by omega) (by omega) (by omega)
      rw [if_neg (show ¬ nI 3 < 2 by decide), la1, b1_s, if_pos (s10 1 (by omega)), b1_s, if_neg (show ¬ nI 3 < 3 by decide), la2, b1_s, if_pos (s10 2 (by omega))]
