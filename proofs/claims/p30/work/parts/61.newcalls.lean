/-! ===== calls of constructors, and of methods over a part of the world ===== -/
def CNI (own : String) (idx : Nat) (y : MethodName) (host : String) (bytes : ByteArray) (maxL : Nat) : Prop := (own, idx, y, host) ∈ nestL ∧ Cond.instanceMethod y ∈ tb ∧ Cond.initialized y.cls ∈ tb ∧ Cond.code y bytes maxL none ∈ tb ∧ y.name = "<init>" ∧ (y.cls ≠ "java/lang/invoke/MethodHandle" ∧ y.cls ≠ "java/lang/invoke/VarHandle" ∧ (parseMethodDescriptor y.desc).map (fun d => d.parameters.length) = some 0)
def CSI (own : String) (idx : Nat) (y : MethodName) (bytes : ByteArray) (maxL : Nat) : Prop := Cond.methodLink own idx y ∈ tb ∧ Cond.instanceMethod y ∈ tb ∧ Cond.initialized y.cls ∈ tb ∧ Cond.code y bytes maxL none ∈ tb ∧ y.name = "<init>" ∧ (y.cls ≠ "java/lang/invoke/MethodHandle" ∧ y.cls ≠ "java/lang/invoke/VarHandle" ∧ (parseMethodDescriptor y.desc).map (fun d => d.parameters.length) = some 0)
theorem va_D_adr {A : Nat → Prop} {a b : va_W} (e : a.map Prod.fst = b.map Prod.fst) (h : va_D A a) : va_D A b := by
  have k1 : ∀ (i : Nat) (q : Nat × va_E), b[i]? = some q → ∃ q', a[i]? = some q' ∧ q'.1 = q.1 := fun i q hq => by
    have h1 : (b.map Prod.fst)[i]? = some q.1 := by rw [List.getElem?_map, hq]; rfl
    rw [← e, List.getElem?_map] at h1
    exact Option.map_eq_some_iff.mp h1
  refine ⟨fun i j p q hi hj e => ?_, fun k q hk => ?_⟩
  · obtain ⟨p', h1, h2⟩ := k1 i p hi
    obtain ⟨q', h3, h4⟩ := k1 j q hj
    exact h.1 i j p' q' h1 h3 (by rw [h2, h4, e])
  · obtain ⟨q', h1, h2⟩ := k1 k q hk
    rw [← h2]; exact h.2 k q' h1
theorem va_P_pre {D : va_G} {a b : va_W} {H : Heap} (h : va_P D vwCl (a ++ b) H) : va_P D vwCl a H := fun k q hk => h k q (by rw [List.getElem?_append_left (List.getElem?_eq_some_iff.mp hk).1]; exact hk)
theorem va_P_suf {D : va_G} {a b : va_W} {H : Heap} (h : va_P D vwCl (a ++ b) H) : va_P D vwCl b H := fun k q hk => h (a.length + k) q (by rw [List.getElem?_append_right (by omega), Nat.add_sub_cancel_left]; exact hk)
theorem va_D_suf {A : Nat → Prop} {a b : va_W} (h : va_D A (a ++ b)) : va_D A b := by
  have k1 : ∀ (i : Nat) (q : Nat × va_E), b[i]? = some q → (a ++ b)[a.length + i]? = some q := fun i q hq => by
    rw [List.getElem?_append_right (by omega), Nat.add_sub_cancel_left]; exact hq
  refine ⟨fun i j p q hi hj e => ?_, fun k q hk => h.2 _ q (k1 k q hk)⟩
  have := h.1 _ _ p q (k1 i p hi) (k1 j q hj) e
  omega
/-- the two parts of a world lie apart -/
theorem va_D_two {A : Nat → Prop} {a b : va_W} (h : va_D A (a ++ b)) {i j : Nat} {p q : Nat × va_E} (hi : a[i]? = some p) (hj : b[j]? = some q) : p.1 ≠ q.1 := fun e => by
  have hl := (List.getElem?_eq_some_iff.mp hi).1
  have := h.1 i (a.length + j) p q (by rw [List.getElem?_append_left hl]; exact hi) (by rw [List.getElem?_append_right (by omega), Nat.add_sub_cancel_left]; exact hj) e
  omega
section VN
variable {X : XT} {cy : ClassId × ClassId × ClassId} {nL : Nat} {cc : ByteArray} {own : String} {fr lo mc ms : Nat} {w : va_W} {kc ks pc : Nat} {lv lv' : List (Nat × Value)} {st : List Value}
/-- behind a constructor -/
theorem n_back {p : Program} {l : Launch} {e : Env} {R : Room} {s : State} {m : MethodId} {args : Array Value} {below : List Frame} {meth : Method} {c : Code} {D : va_G} {A : Nat → Prop} {Q : State → Prop} {H : Heap} {locs : List Loc} {ls : Array Slot} {stk : List Value} {c0 : Nat} {cs : List Nat} {M : Mm} {q ci mc' ms' : Nat} {fs0 : List Value} {av : Array Value}
    (hr : va_Run p l e R s m args below meth c H locs kc ks mc' ms' (F0 m pc ls stk) st (NQ D cy c0 cs M q (va_A [(q, .inr (ci, fs0))] H.size) av) (va_A [(q, .inr (ci, fs0))] H.size)) (hA : ∀ q, s.heap.size ≤ q → A q) (hP : va_P D vwCl (w ++ [(q, .inr (ci, fs0))]) H) (hD : va_D A (w ++ [(q, .inr (ci, fs0))])) (hS : va_S A s.heap H locs)
    (kk : ∀ (ad : Nat → Nat) (H1 : Heap) (locs1 : List Loc), ad c0 = q → va_P D vwCl (w ++ wl cy ad cs M) H1 → va_D A (w ++ wl cy ad cs M) → va_S A s.heap H1 locs1 → W p l e R s m args below meth c H1 locs1 (kc + mc') (ks + ms') Q (F0 m (pc + 3) ls st)) : W p l e R s m args below meth c H locs kc ks Q (F0 m pc ls stk) := by
  have hq : A q := hD.2 w.length (q, .inr (ci, fs0)) (by simp)
  have hFc : ∀ z, va_A [(q, .inr (ci, fs0))] H.size z → A z := by
    rintro z (⟨k, e, h⟩ | h)
    · have hk : k < 1 := (List.getElem?_eq_some_iff.mp h).1
      obtain rfl : k = 0 := by omega
      cases h; exact hq
    · exact hA z (Nat.le_trans hS.1 h)
  refine va_callv hr hS (fun z _ h => hFc z h) hFc (fun ad t H1 locs1 ht hvm hw hB hz1 hk1 hS1 => ?_)
  obtain ⟨hP1, hD1⟩ := hB
  rw [ht] at hP1
  have apart : ∀ (k : Nat) (x : Nat × va_E), w[k]? = some x → x.1 < H.size ∧ ¬ va_A [(q, .inr (ci, fs0))] H.size x.1 := fun k x hx => by
    have hlt := ((va_P_pre hP) k x hx).lt
    refine ⟨hlt, ?_⟩
    rintro (⟨k2, e, h⟩ | h)
    · have hk : k2 < 1 := (List.getElem?_eq_some_iff.mp h).1
      obtain rfl : k2 = 0 := by omega
      exact va_D_two hD hx h rfl
    · omega
  refine kk ad H1 locs1 hw (va_P.app (fun k x hx => ?_) hP1) (va_D.app (va_D_pre hD) (hD1.weaken (fun k x _ h => hFc x.1 h)) (fun i j x y hx hy hxy => ?_)) hS1
  · exact ((va_P_pre hP) k x hx).kept (hk1 x.1 (apart k x hx).1 (apart k x hx).2)
  · exact (apart i x hx).2 (by rw [hxy]; exact hD1.2 j y hy)
theorem CI.blind {D : va_G} {sz h0 ci : Nat} {fs0 : List Value} : FrameBlind (va_Pc [.ref h0] (fun U => U.heap.size = sz ∧ va_P D vwCl [(h0, .inr (ci, fs0))] U.heap ∧ KK D cy U)) :=
  fun _ _ _ _ q => ⟨q.1, q.2.1, q.2.2.1, KK.same q.2.2.2 rfl⟩
theorem n_initN {idx maxL fr' lo' mc' ms' ci c0 q : Nat} {y : MethodName} {host : String} {bytes : ByteArray} {fs0 : List Value} {cs : List Nat} {M : Mm} (hX : NOK X cy nL cc own fr lo mc ms) (cw : CNI own idx y host bytes maxL) (hm : CI c0 cs y bytes maxL fr' lo' mc' ms' ci fs0 M) (hroom : fr' + 1 ≤ fr ∧ 8 + (maxL + 11) + lo' ≤ lo) (hc : kc + mc' ≤ mc ∧ ks + ms' ≤ ms) (hW : (st.map fun v => v.category).sum ≤ 8) (d : decode cc pc = .ok (.invokespecial idx, 3))
    (kk : ∀ ad, ad c0 = q → NN X nL (w ++ wl cy ad cs M) (kc + mc') (ks + ms') (pc + 3) lv st) : NN X nL (w ++ [(q, .inr (ci, fs0))]) kc ks pc lv (.ref q :: st) := by
  obtain ⟨p, l, e, R, s, m, args, below, meth, c, D, cy0, A, kc0, ks0, Q⟩ := X
  obtain ⟨hx, hb, hml, hown, hts, hK, -, hA, hr⟩ := hX
  obtain ⟨w1, w2, w3, w4, w5, w6⟩ := cw
  intro H locs ls hP hD hS hl
  refine n_back (cy := cy) (va_runIN (As := []) (rest := st) (Ts := tb) ⟨hx, hb, hml, hown, hts⟩ (hm l D cy q H.size) ⟨va_cnB 0 hts (goodIn_tb w4) rfl rfl rfl (hK.2 _ w1) (hts _ w3) w6 ⟨Nat.le_trans hroom.1 hr.1, Nat.le_trans hroom.2 hr.2.1⟩, w5, hts _ w2⟩ ⟨CI.blind, fun U hU hW => ⟨rfl, by rw [hU], by rw [hU]; exact va_P_suf hP, hK.warm hW⟩⟩ rfl rfl hl.1 rfl (lv_room hW) d ⟨Nat.le_trans hc.1 hr.2.2.1, Nat.le_trans hc.2 hr.2.2.2⟩) hA hP hD hS (fun ad H1 locs1 e0 hP1 hD1 hS1 => kk ad e0 H1 locs1 ls hP1 hD1 hS1 hl)
theorem n_initS {idx maxL fr' lo' mc' ms' ci c0 q : Nat} {y : MethodName} {bytes : ByteArray} {fs0 : List Value} {cs : List Nat} {M : Mm} (hX : NOK X cy nL cc own fr lo mc ms) (cw : CSI own idx y bytes maxL) (hm : CI c0 cs y bytes maxL fr' lo' mc' ms' ci fs0 M) (hroom : fr' + 1 ≤ fr ∧ 8 + (maxL + 11) + lo' ≤ lo) (hc : kc + mc' ≤ mc ∧ ks + ms' ≤ ms) (hW : (st.map fun v => v.category).sum ≤ 8) (d : decode cc pc = .ok (.invokespecial idx, 3))
    (kk : ∀ ad, ad c0 = q → NN X nL (w ++ wl cy ad cs M) (kc + mc') (ks + ms') (pc + 3) lv st) : NN X nL (w ++ [(q, .inr (ci, fs0))]) kc ks pc lv (.ref q :: st) := by
  obtain ⟨p, l, e, R, s, m, args, below, meth, c, D, cy0, A, kc0, ks0, Q⟩ := X
  obtain ⟨hx, hb, hml, hown, hts, hK, -, hA, hr⟩ := hX
  obtain ⟨w1, w2, w3, w4, w5, w6⟩ := cw
  intro H locs ls hP hD hS hl
  refine n_back (cy := cy) (va_runI (As := []) (rest := st) (Ts := tb) ⟨hx, hb, hml, hown, hts⟩ (hm l D cy q H.size) (cwI 0 hts (goodIn_tb w4) rfl rfl rfl (hts _ w3) (hts _ w1) (hts _ w2) w5 w6 ⟨Nat.le_trans hroom.1 hr.1, Nat.le_trans hroom.2 hr.2.1⟩) ⟨CI.blind, fun U hU hW => ⟨rfl, by rw [hU], by rw [hU]; exact va_P_suf hP, hK.warm hW⟩⟩ rfl rfl hl.1 rfl (lv_room hW) d ⟨Nat.le_trans hc.1 hr.2.2.1, Nat.le_trans hc.2 hr.2.2.2⟩) hA hP hD hS (fun ad H1 locs1 e0 hP1 hD1 hS1 => kk ad e0 H1 locs1 ls hP1 hD1 hS1 hl)
theorem wl_adr (cy : ClassId × ClassId × ClassId) (ad : Nat → Nat) (cs : List Nat) (M : Mm) : (wl cy ad cs M).map Prod.fst = cs.map ad := by
  unfold wl
  rw [List.map_map]; rfl
theorem dj_of {A : Nat → Prop} {ad : Nat → Nat} {cs : List Nat} {M : Mm} (h : va_D A (wl cy ad cs M)) : dj A ad cs := by
  refine ⟨fun i j a b hi hj e => ?_, fun c hc => ?_⟩
  · exact h.1 i j (ad a, mcell cy ad M a (shp a)) (ad b, mcell cy ad M b (shp b)) (wl_at hi) (wl_at hj) e
  · obtain ⟨i, hi⟩ := List.mem_iff_getElem?.mp hc
    exact h.2 i (ad c, mcell cy ad M c (shp c)) (wl_at hi)
/-- a call of a method whose world is the last part -/
theorem n_callM {idx c ci n maxL fr' lo' : Nat} {C : String} {T : u_T} {N : Nat} {y : MethodName} {bytes : ByteArray} {ret : Option FieldType} {fs : List Fs} {stk : List Value} {ad : Nat → Nat} {cs : List Nat} {M : Mm} (As : List Value) (r : Option Value) (M' : Mm) (hX : NOK X cy nL cc own fr lo mc ms) (cv : CV own idx C y bytes maxL ret n) (hm : CT ad cs y bytes maxL ret fr' lo' (.ref (ad c) :: As) M r M')
    (hc : c ∈ cs) (hsh : shp c = .inl (ci, fs)) (hcl : vwCl[ci]? = some (C, T, N)) (hn : As.length = n) (hst : stk = As.reverse ++ .ref (ad c) :: st) (hroom : fr' + 1 ≤ fr ∧ 8 + (maxL + 11) + lo' ≤ lo) (hW : (st.map fun v => v.category).sum ≤ 8) (hk : kc ≤ mc ∧ ks ≤ ms) (d : decode cc pc = .ok (.invokevirtual idx, 3))
    (kk : NN X nL (w ++ wl cy ad cs M') kc ks (pc + 3) lv (r.toList ++ st)) : NN X nL (w ++ wl cy ad cs M) kc ks pc lv stk := by
  subst hst
  obtain ⟨p, l, e, R, s, m, args, below, meth, co, D, cy0, A, kc0, ks0, Q⟩ := X
  obtain ⟨hx, hb, hml, hown, hts, hK, -, hA, hr⟩ := hX
  obtain ⟨w1, w2, w3, w4, w5, w6⟩ := cv
  obtain ⟨q0, hq⟩ := List.mem_iff_getElem?.mp hc
  intro H locs ls hP hD hS hl
  have he := wl_at (cy := cy) (ad := ad) (M := M) hq
  rw [hsh] at he
  have hPc := va_P_suf hP
  have hdj : dj A ad cs := dj_of (va_D_suf hD)
  have run := va_runV (p := p) (l := l) (e := e) (R := R) (below := below) (meth := meth) (H := H) (locs := locs) (cells := kc) (slots := ks) (g := F0 m pc ls (As.reverse ++ .ref (ad c) :: st)) (b := ad c) (index := idx) (As := As) (rest := st) (Ts := tb) (C := C) ⟨hx, hb, hml, hown, hts⟩ (hm l D cy) ⟨callB_of n hts (goodIn_tb w5) rfl rfl rfl (hts _ w4) (hts _ w1) w6 ⟨Nat.le_trans hroom.1 hr.1, Nat.le_trans hroom.2 hr.2.1⟩, hts _ w2, hts _ w3⟩ ⟨CT.blind, va_recv hK.1 hPc hcl he, fun U hU hW => ⟨rfl, by rw [hU]; exact hPc, hK.warm hW, hdj.1, fun _ _ => trivial⟩⟩ rfl hn hl.1 rfl (lv_room hW) d ⟨Nat.le_trans hk.1 hr.2.2.1, Nat.le_trans hk.2 hr.2.2.2⟩
  intro T' hT XS
  obtain ⟨v, st₀, t, T2, L, h0, X', hL, e1, -, ⟨⟨ho, hP1⟩, hF⟩, go⟩ := run T' hT XS
  obtain rfl : v = r := by injection ho
  have hsub : ∀ q, Ad ad cs q → A q := fun q ⟨c, hc, hq⟩ => hq ▸ hdj.2 c hc
  have hS' : va_S A s.heap T2.heap (locs ++ L) := by
    refine ⟨?_, fun q h1 h2 => ?_, fun x hx => ?_⟩
    · rw [e1]; exact Nat.le_trans hS.1 (h0 ▸ hF.1)
    · rw [e1, hF.2 q (by rw [h0]; exact Nat.lt_of_lt_of_le h1 hS.1) (fun h => h2 (hsub q h)), h0]; exact hS.2.1 q h1 h2
    · exact (List.mem_append.mp hx).elim (hS.2.2 x) (fun h => hsub _ (hL x h))
  have apart : ∀ (k : Nat) (x : Nat × va_E), w[k]? = some x → x.1 < H.size ∧ ¬ Ad ad cs x.1 := fun k x hx => by
    refine ⟨((va_P_pre hP) k x hx).lt, ?_⟩
    rintro ⟨c', hc', hq'⟩
    obtain ⟨i, hi⟩ := List.mem_iff_getElem?.mp hc'
    exact va_D_two hD hx (wl_at (cy := cy) (ad := ad) (M := M) hi) hq'
  obtain ⟨t2, a1, b1⟩ := kk T2.heap (locs ++ L) ls (va_P.app (fun k x hx => ((va_P_pre hP) k x hx).kept (by rw [e1, hF.2 x.1 (by rw [h0]; exact (apart k x hx).1) (apart k x hx).2, h0])) (by rw [e1]; exact hP1)) (va_D_adr (by rw [List.map_append, List.map_append, wl_adr, wl_adr]) hD) hS' hl T2 rfl X'
  exact ⟨t2, go t2 a1, b1⟩
end VN
