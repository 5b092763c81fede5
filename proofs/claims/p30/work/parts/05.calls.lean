/-! ===== calls, pure combinators, loops ===== -/
theorem CT.blind {ad : Nat → Nat} {cs : List Nat} {D : va_G} {cy : ClassId × ClassId × ClassId} {M : Mm} {av : List Value} : FrameBlind (va_Pc av (fun U => va_P D vwCl (wl cy ad cs M) U.heap ∧ KK D cy U ∧ dj (fun _ => True) ad cs)) :=
  fun _ _ _ _ q => ⟨q.1, q.2.1, KK.same q.2.2.1 rfl, q.2.2.2⟩
section VC
variable {X : XT} {nL : Nat} {ad : Nat → Nat} {cs : List Nat} {cc : ByteArray} {own : String} {fr lo : Nat} {M M' : Mm} {pc : Nat} {lv lv' : List (Nat × Value)} {st : List Value}
theorem v_run {p : Program} {l : Launch} {e : Env} {R : Room} {s : State} {m : MethodId} {args : Array Value} {below : List Frame} {meth : Method} {c : Code} {D : va_G} {cy : ClassId × ClassId × ClassId} {A : Nat → Prop} {kc ks : Nat} {Q : State → Prop} {H : Heap} {locs : List Loc} {ls : Array Slot} {stk : List Value} {r : Option Value} {av : Array Value}
    (hr : va_Run p l e R s m args below meth c H locs kc ks 0 0 (F0 m pc ls stk) st (mQ D cy ad cs r M' (Ad ad cs) av) (Ad ad cs)) (hD : dj A ad cs) (hS : va_S A s.heap H locs) (hl : lv_has ls nL lv)
    (kk : VV (p, l, e, R, s, m, args, below, meth, c, D, cy, A, kc, ks, Q) nL ad cs M' (pc + 3) lv (r.toList ++ st)) : W p l e R s m args below meth c H locs kc ks Q (F0 m pc ls stk) := by
  intro T hT XS
  obtain ⟨v, st₀, t, T', L, h0, X', hL, e1, -, ⟨⟨ho, hP1⟩, hF⟩, go⟩ := hr T hT XS
  obtain rfl : v = r := by injection ho
  have hsub : ∀ q, Ad ad cs q → A q := fun q ⟨c, hc, hq⟩ => hq ▸ hD.2 c hc
  have hS' : va_S A s.heap T'.heap (locs ++ L) := by
    refine ⟨?_, fun q h1 h2 => ?_, fun x hx => ?_⟩
    · rw [e1]; exact Nat.le_trans hS.1 (h0 ▸ hF.1)
    · rw [e1, hF.2 q (by rw [h0]; exact Nat.lt_of_lt_of_le h1 hS.1) (fun h => h2 (hsub q h)), h0]; exact hS.2.1 q h1 h2
    · exact (List.mem_append.mp hx).elim (hS.2.2 x) (fun h => hsub _ (hL x h))
  obtain ⟨t2, a1, b1⟩ := kk T'.heap (locs ++ L) ls (by rw [e1]; exact hP1) hS' hl T' rfl X'
  exact ⟨t2, go t2 a1, b1⟩
/-- what a call of an instance method wants of the tables -/
def CV (own : String) (idx : Nat) (C : String) (y : MethodName) (bytes : ByteArray) (maxL : Nat) (ret : Option FieldType) (n : Nat) : Prop :=
  Cond.methodLink own idx y ∈ tb ∧ Cond.instanceMethod y ∈ tb ∧ Cond.selects C y y ∈ tb ∧ Cond.initialized y.cls ∈ tb ∧ Cond.code y bytes maxL ret ∈ tb ∧ (y.cls ≠ "java/lang/invoke/MethodHandle" ∧ y.cls ≠ "java/lang/invoke/VarHandle" ∧ (parseMethodDescriptor y.desc).map (fun d => d.parameters.length) = some n)
def CS (own : String) (idx : Nat) (y : MethodName) (bytes : ByteArray) (maxL : Nat) (ret : Option FieldType) (n : Nat) : Prop :=
  Cond.methodLink own idx y ∈ tb ∧ Cond.static y ∈ tb ∧ Cond.initialized y.cls ∈ tb ∧ Cond.code y bytes maxL ret ∈ tb ∧ (y.cls ≠ "java/lang/invoke/MethodHandle" ∧ y.cls ≠ "java/lang/invoke/VarHandle" ∧ (parseMethodDescriptor y.desc).map (fun d => d.parameters.length) = some n)
def CN (own : String) (idx : Nat) (y : MethodName) (host : String) (bytes : ByteArray) (maxL : Nat) (ret : Option FieldType) (n : Nat) : Prop :=
  (own, idx, y, host) ∈ nestL ∧ Cond.static y ∈ tb ∧ Cond.initialized y.cls ∈ tb ∧ Cond.code y bytes maxL ret ∈ tb ∧ (y.cls ≠ "java/lang/invoke/MethodHandle" ∧ y.cls ≠ "java/lang/invoke/VarHandle" ∧ (parseMethodDescriptor y.desc).map (fun d => d.parameters.length) = some n)
theorem v_callV {idx c ci n maxL fr' lo' : Nat} {C : String} {T : u_T} {N : Nat} {y : MethodName} {bytes : ByteArray} {ret : Option FieldType} {fs : List Fs} {stk : List Value} (As : List Value) (r : Option Value) (M' : Mm) (hX : XOK X nL ad cs cc own fr lo) (cv : CV own idx C y bytes maxL ret n) (hm : CT ad cs y bytes maxL ret fr' lo' (.ref (ad c) :: As) M r M')
    (hc : c ∈ cs) (hsh : shp c = .inl (ci, fs)) (hcl : vwCl[ci]? = some (C, T, N)) (hn : As.length = n) (hst : stk = As.reverse ++ .ref (ad c) :: st) (hroom : fr' + 1 ≤ fr ∧ 8 + (maxL + 11) + lo' ≤ lo) (hW : (st.map fun v => v.category).sum ≤ 8) (d : decode cc pc = .ok (.invokevirtual idx, 3))
    (kk : VV X nL ad cs M' (pc + 3) lv (r.toList ++ st)) : VV X nL ad cs M pc lv stk := by
  subst hst
  obtain ⟨p, l, e, R, s, m, args, below, meth, co, D, cy, A, kc, ks, Q⟩ := X
  obtain ⟨hx, hb, hml, hown, hts, hK, hD, hr⟩ := hX
  obtain ⟨w1, w2, w3, w4, w5, w6⟩ := cv
  obtain ⟨q0, hq⟩ := List.mem_iff_getElem?.mp hc
  intro H locs ls hP hS hl
  have he := wl_at (cy := cy) (ad := ad) (M := M) hq
  rw [hsh] at he
  refine v_run (va_runV (As := As) (rest := st) (Ts := tb) (C := C) ⟨hx, hb, hml, hown, hts⟩ (hm l D cy) ⟨callB_of n hts (goodIn_tb w5) rfl rfl rfl (hts _ w4) (hts _ w1) w6 ⟨Nat.le_trans hroom.1 hr.1, Nat.le_trans hroom.2 hr.2.1⟩, hts _ w2, hts _ w3⟩ ⟨CT.blind, va_recv hK.1 hP hcl he, fun U hU hW => ⟨rfl, by rw [hU]; exact hP, hK.warm hW, hD.1, fun _ _ => trivial⟩⟩ rfl hn hl.1 rfl (lv_room hW) d ⟨hr.2.2.1, hr.2.2.2⟩) hD hS hl kk
theorem v_callS {idx n maxL fr' lo' : Nat} {y : MethodName} {bytes : ByteArray} {ret : Option FieldType} {stk : List Value} (As : List Value) (r : Option Value) (M' : Mm) (hX : XOK X nL ad cs cc own fr lo) (cv : CS own idx y bytes maxL ret n) (hm : CT ad cs y bytes maxL ret fr' lo' As M r M')
    (hn : As.length = n) (hst : stk = As.reverse ++ st) (hroom : fr' + 1 ≤ fr ∧ 8 + (maxL + 11) + lo' ≤ lo) (hW : (st.map fun v => v.category).sum ≤ 8) (d : decode cc pc = .ok (.invokestatic idx, 3))
    (kk : VV X nL ad cs M' (pc + 3) lv (r.toList ++ st)) : VV X nL ad cs M pc lv stk := by
  subst hst
  obtain ⟨p, l, e, R, s, m, args, below, meth, co, D, cy, A, kc, ks, Q⟩ := X
  obtain ⟨hx, hb, hml, hown, hts, hK, hD, hr⟩ := hX
  obtain ⟨w1, w2, w4, w5, w6⟩ := cv
  intro H locs ls hP hS hl
  refine v_run (va_runS (As := As) (rest := st) (Ts := tb) ⟨hx, hb, hml, hown, hts⟩ (hm l D cy) ⟨callB_of n hts (goodIn_tb w5) rfl rfl rfl (hts _ w4) (hts _ w1) w6 ⟨Nat.le_trans hroom.1 hr.1, Nat.le_trans hroom.2 hr.2.1⟩, hts _ w2⟩ ⟨CT.blind, fun U hU hW => ⟨rfl, by rw [hU]; exact hP, hK.warm hW, hD.1, fun _ _ => trivial⟩⟩ rfl hn hl.1 rfl (lv_room hW) d ⟨hr.2.2.1, hr.2.2.2⟩) hD hS hl kk
theorem v_callN {idx n maxL fr' lo' : Nat} {y : MethodName} {host : String} {bytes : ByteArray} {ret : Option FieldType} {stk : List Value} (As : List Value) (r : Option Value) (M' : Mm) (hX : XOK X nL ad cs cc own fr lo) (cv : CN own idx y host bytes maxL ret n) (hm : CT ad cs y bytes maxL ret fr' lo' As M r M')
    (hn : As.length = n) (hst : stk = As.reverse ++ st) (hroom : fr' + 1 ≤ fr ∧ 8 + (maxL + 11) + lo' ≤ lo) (hW : (st.map fun v => v.category).sum ≤ 8) (d : decode cc pc = .ok (.invokestatic idx, 3))
    (kk : VV X nL ad cs M' (pc + 3) lv (r.toList ++ st)) : VV X nL ad cs M pc lv stk := by
  subst hst
  obtain ⟨p, l, e, R, s, m, args, below, meth, co, D, cy, A, kc, ks, Q⟩ := X
  obtain ⟨hx, hb, hml, hown, hts, hK, hD, hr⟩ := hX
  obtain ⟨w1, w2, w4, w5, w6⟩ := cv
  intro H locs ls hP hS hl
  refine v_run (va_runSN (As := As) (rest := st) (Ts := tb) ⟨hx, hb, hml, hown, hts⟩ (hm l D cy) ⟨va_cnB n hts (goodIn_tb w5) rfl rfl rfl (hK.2 _ w1) (hts _ w4) w6 ⟨Nat.le_trans hroom.1 hr.1, Nat.le_trans hroom.2 hr.2.1⟩, hts _ w2, trivial⟩ ⟨CT.blind, fun U hU hW => ⟨rfl, by rw [hU]; exact hP, hK.warm hW, hD.1, fun _ _ => trivial⟩⟩ rfl hn hl.1 rfl (lv_room hW) d ⟨hr.2.2.1, hr.2.2.2⟩) hD hS hl kk
end VC
def gd {α : Type} (c : Prop) [Decidable c] (x : Option α) : Option α := if c then x else none
def bd {α β : Type} (e : α) (k : α → Option β) : Option β := k e
def b1 {α β : Type} (x : Option α) (k : α → Option β) : Option β := x.bind k
def b2 {α β γ : Type} (x : Option (α × β)) (k : α → β → Option γ) : Option γ := x.bind fun q => k q.1 q.2
def b3 {α β γ δ : Type} (x : Option (α × β × γ)) (k : α → β → γ → Option δ) : Option δ := x.bind fun q => k q.1 q.2.1 q.2.2
def b4 {α β γ δ ε : Type} (x : Option (α × β × γ × δ)) (k : α → β → γ → δ → Option ε) : Option ε := x.bind fun q => k q.1 q.2.1 q.2.2.1 q.2.2.2
def b5 {α β γ δ ε ζ : Type} (x : Option (α × β × γ × δ × ε)) (k : α → β → γ → δ → ε → Option ζ) : Option ζ := x.bind fun q => k q.1 q.2.1 q.2.2.1 q.2.2.2.1 q.2.2.2.2
def bs {α β γ : Type} (x : Option (α ⊕ β)) (k : α → Option γ) (j : β → Option γ) : Option γ := x.bind fun q => Sum.elim k j q
def itr {σ ρ : Type} (body : σ → Option (σ ⊕ ρ)) : Nat → σ → Option ρ
  | 0, _ => none
  | n + 1, s => (body s).bind fun q => Sum.elim (itr body n) some q
def u2 {α β γ : Type} (f : α → β → γ) : α × β → γ := fun q => f q.1 q.2
def u3 {α β γ δ : Type} (f : α → β → γ → δ) : α × β × γ → δ := fun q => f q.1 q.2.1 q.2.2
def u4 {α β γ δ ε : Type} (f : α → β → γ → δ → ε) : α × β × γ × δ → ε := fun q => f q.1 q.2.1 q.2.2.1 q.2.2.2
def u5 {α β γ δ ε ζ : Type} (f : α → β → γ → δ → ε → ζ) : α × β × γ × δ × ε → ζ := fun q => f q.1 q.2.1 q.2.2.1 q.2.2.2.1 q.2.2.2.2
theorem gd_e {α : Type} {c : Prop} [Decidable c] {x : Option α} {q : α} (h : gd c x = some q) : c ∧ x = some q := by
  unfold gd at h
  by_cases hc : c
  · rw [if_pos hc] at h; exact ⟨hc, h⟩
  · rw [if_neg hc] at h; cases h
theorem bd_e {α β : Type} {e : α} {k : α → Option β} {q : β} (h : bd e k = some q) : ∃ v, v = e ∧ k v = some q := ⟨e, rfl, h⟩
theorem b1_e {α β : Type} {x : Option α} {k : α → Option β} {q : β} (h : b1 x k = some q) : ∃ v, x = some v ∧ k v = some q := Option.bind_eq_some_iff.mp h
theorem b2_e {α β γ : Type} {x : Option (α × β)} {k : α → β → Option γ} {q : γ} (h : b2 x k = some q) : ∃ a b, x = some (a, b) ∧ k a b = some q := by
  obtain ⟨⟨a, b⟩, h1, h2⟩ := Option.bind_eq_some_iff.mp h; exact ⟨a, b, h1, h2⟩
theorem b3_e {α β γ δ : Type} {x : Option (α × β × γ)} {k : α → β → γ → Option δ} {q : δ} (h : b3 x k = some q) : ∃ a b c, x = some (a, b, c) ∧ k a b c = some q := by
  obtain ⟨⟨a, b, c⟩, h1, h2⟩ := Option.bind_eq_some_iff.mp h; exact ⟨a, b, c, h1, h2⟩
theorem b4_e {α β γ δ ε : Type} {x : Option (α × β × γ × δ)} {k : α → β → γ → δ → Option ε} {q : ε} (h : b4 x k = some q) : ∃ a b c d, x = some (a, b, c, d) ∧ k a b c d = some q := by
  obtain ⟨⟨a, b, c, d⟩, h1, h2⟩ := Option.bind_eq_some_iff.mp h; exact ⟨a, b, c, d, h1, h2⟩
theorem b5_e {α β γ δ ε ζ : Type} {x : Option (α × β × γ × δ × ε)} {k : α → β → γ → δ → ε → Option ζ} {q : ζ} (h : b5 x k = some q) : ∃ a b c d e, x = some (a, b, c, d, e) ∧ k a b c d e = some q := by
  obtain ⟨⟨a, b, c, d, e⟩, h1, h2⟩ := Option.bind_eq_some_iff.mp h; exact ⟨a, b, c, d, e, h1, h2⟩
theorem bs_e {α β γ : Type} {x : Option (α ⊕ β)} {k : α → Option γ} {j : β → Option γ} {q : γ} (h : bs x k j = some q) : (∃ a, x = some (.inl a) ∧ k a = some q) ∨ (∃ b, x = some (.inr b) ∧ j b = some q) := by
  obtain ⟨a | b, h1, h2⟩ := Option.bind_eq_some_iff.mp h
  · exact Or.inl ⟨a, h1, h2⟩
  · exact Or.inr ⟨b, h1, h2⟩
theorem if_t {α : Type} {c : Prop} [Decidable c] {a b : α} {q : α} (h : (if c then a else b) = q) (hc : c) : a = q := by rw [if_pos hc] at h; exact h
theorem if_f {α : Type} {c : Prop} [Decidable c] {a b : α} {q : α} (h : (if c then a else b) = q) (hc : ¬ c) : b = q := by rw [if_neg hc] at h; exact h
/-- a loop of the machine by a loop of numbers -/
theorem v_itr {σ ρ : Type} (body : σ → Option (σ ⊕ ρ)) (In : σ → Prop) (Out : ρ → Prop) (hb : ∀ s q, body s = some q → Sum.elim In Out q → In s) : ∀ (n : Nat) (s : σ) (r : ρ), itr body n s = some r → Out r → In s := by
  intro n
  induction n with
  | zero => intro s r h; cases h
  | succ n ih =>
    intro s r h ho
    obtain ⟨q, h1, h2⟩ := Option.bind_eq_some_iff.mp h
    cases q with
    | inl s' => exact hb s _ h1 (ih s' r h2 ho)
    | inr r' => cases h2; exact hb s _ h1 ho
/-! ===== the script: a row of ints that no cell is ===== -/
def SZ (X : XT) (b L : Nat) (xs : Nat → Int32) : Prop := match X with
  | (_, _, _, _, s, _, _, _, _, _, _, _, A, _, _, _) => va_X b L xs s s.heap ∧ b < s.heap.size ∧ ¬ A b
def CTs (b L : Nat) (xs : Nat → Int32) (ad : Nat → Nat) (cs : List Nat) (y : MethodName) (cc : ByteArray) (maxL : Nat) (ret : Option FieldType) (fr lo : Nat) (av : List Value) (M : Mm) (r : Option Value) (M' : Mm) : Prop :=
  ∀ (l : Launch) (D : va_G) (cy : ClassId × ClassId × ClassId), Met l y (.code y cc maxL ret :: tb) ({ frames := fr, cells := 0, slots := 0, locals := lo } : Room) (va_Pc av (fun U => va_P D vwCl (wl cy ad cs M) U.heap ∧ KK D cy U ∧ dj (fun _ => True) ad cs ∧ va_X b L xs U U.heap ∧ b < U.heap.size ∧ ¬ Ad ad cs b)) (mQ D cy ad cs r M' (Ad ad cs)) 0 0 (Ad ad cs)
theorem CTs.blind {b L : Nat} {xs : Nat → Int32} {ad : Nat → Nat} {cs : List Nat} {D : va_G} {cy : ClassId × ClassId × ClassId} {M : Mm} {av : List Value} : FrameBlind (va_Pc av (fun U => va_P D vwCl (wl cy ad cs M) U.heap ∧ KK D cy U ∧ dj (fun _ => True) ad cs ∧ va_X b L xs U U.heap ∧ b < U.heap.size ∧ ¬ Ad ad cs b)) :=
  fun _ _ _ _ q => ⟨q.1, q.2.1, KK.same q.2.2.1 rfl, q.2.2.2.1, va_X.moved (Vm.Alike.refl _) q.2.2.2.2.1, q.2.2.2.2.2⟩
theorem CTs.of {b L : Nat} {xs : Nat → Int32} {ad : Nat → Nat} {cs : List Nat} {y : MethodName} {cc : ByteArray} {maxL : Nat} {ret : Option FieldType} {fr lo : Nat} {av : List Value} {M M' : Mm} {r : Option Value} (own : String) (hy : plainName y.cls = true) (ho : y.cls = own) (hlen : (lg_sl av).length ≤ maxL)
    (body : ∀ X : XT, XOK X maxL ad cs cc own fr lo → XR X ad cs ret r M' → SZ X b L xs → VV X maxL ad cs M 0 (lv_args 0 av) []) : CTs b L xs ad cs y cc maxL ret fr lo av M r M' := by
  intro l D cy
  refine Met.ofW (cc := cc) (maxL := maxL) (ret := ret) hy rfl ?_
  intro p e s m args below meth c s₁ B hml hv
  obtain ⟨rfl, hP, hK, hD, hZ⟩ := hv
  have hts := atoms_spec (ws := .code y cc maxL ret :: tb) B.pre
  have hown : s.vm.findClass own = some m.cls := by rw [← ho]; exact findClass_of_methodNamed B.named
  have hX := body (p, l, e, ({ frames := fr, cells := 0, slots := 0, locals := lo } : Room), s, m, av.toArray, below, meth, c, D, cy, Ad ad cs, 0, 0, _) ⟨B.exec, B.bytes, hml, hown, fun w h => hts w (List.mem_cons_of_mem _ h), hK, ⟨hD.1, fun c hc => ⟨c, hc, rfl⟩⟩, Nat.le_refl _, Nat.le_refl _, Nat.zero_le _, Nat.zero_le _⟩ ⟨rfl, B.returns, B.notSynchronized⟩ hZ
  have hl := lv_entry av (n := maxL) hlen
  rw [lg_entry_eq]
  exact hX s.heap [] _ hP va_S.rf hl
section VZ
variable {X : XT} {nL : Nat} {ad : Nat → Nat} {cs : List Nat} {cc : ByteArray} {own : String} {fr lo : Nat} {M : Mm} {pc : Nat} {lv : List (Nat × Value)} {st : List Value} {b L : Nat} {xs : Nat → Int32}
theorem v_slen (hX : XOK X nL ad cs cc own fr lo) (hZ : SZ X b L xs) (d : decode cc pc = .ok (.arraylength, 1)) (k : VV X nL ad cs M (pc + 1) lv (.int (nI L) :: st)) : VV X nL ad cs M pc lv (.ref b :: st) := by
  obtain ⟨p, l, e, R, s, m, args, below, meth, c, D, cy, A, kc, ks, Q⟩ := X
  intro H locs ls hP hS hl
  exact va_slen hX.1 hX.2.1 hZ.1 hZ.2.1 hZ.2.2 hS d (k H locs ls hP hS hl)
theorem v_sld {i : Int32} (hX : XOK X nL ad cs cc own fr lo) (hZ : SZ X b L xs) (hi : inb i L) (d : decode cc pc = .ok (.iaload, 1)) (k : VV X nL ad cs M (pc + 1) lv (.int (xs (ix i)) :: st)) : VV X nL ad cs M pc lv (.int i :: .ref b :: st) := by
  obtain ⟨p, l, e, R, s, m, args, below, meth, c, D, cy, A, kc, ks, Q⟩ := X
  intro H locs ls hP hS hl
  exact va_sld (i := i) hX.1 hX.2.1 hZ.1 hZ.2.1 hZ.2.2 hS (vp_in_iff.mpr hi) d (k H locs ls hP hS hl)
theorem v_callSs {idx n maxL fr' lo' : Nat} {y : MethodName} {bytes : ByteArray} {ret : Option FieldType} {stk : List Value} (As : List Value) (r : Option Value) (M' : Mm) (hX : XOK X nL ad cs cc own fr lo) (hZ : SZ X b L xs) (cv : CS own idx y bytes maxL ret n) (hm : CTs b L xs ad cs y bytes maxL ret fr' lo' As M r M')
    (hn : As.length = n) (hst : stk = As.reverse ++ st) (hroom : fr' + 1 ≤ fr ∧ 8 + (maxL + 11) + lo' ≤ lo) (hW : (st.map fun v => v.category).sum ≤ 8) (d : decode cc pc = .ok (.invokestatic idx, 3))
    (kk : VV X nL ad cs M' (pc + 3) lv (r.toList ++ st)) : VV X nL ad cs M pc lv stk := by
  subst hst
  obtain ⟨p, l, e, R, s, m, args, below, meth, co, D, cy, A, kc, ks, Q⟩ := X
  obtain ⟨hx, hb, hml, hown, hts, hK, hD, hr⟩ := hX
  obtain ⟨w1, w2, w4, w5, w6⟩ := cv
  obtain ⟨z1, z2, z3⟩ := hZ
  intro H locs ls hP hS hl
  have hq : H[b]? = s.heap[b]? := hS.2.1 b z2 z3
  have hbH : b < H.size := Nat.lt_of_lt_of_le z2 hS.1
  have hbA : ¬ Ad ad cs b := fun ⟨c, hc, e⟩ => z3 (e ▸ hD.2 c hc)
  refine v_run (va_runS (As := As) (rest := st) (Ts := tb) ⟨hx, hb, hml, hown, hts⟩ (hm l D cy) ⟨callB_of n hts (goodIn_tb w5) rfl rfl rfl (hts _ w4) (hts _ w1) w6 ⟨Nat.le_trans hroom.1 hr.1, Nat.le_trans hroom.2 hr.2.1⟩, hts _ w2⟩ ⟨CTs.blind, fun U hU hW => ⟨rfl, by rw [hU]; exact hP, hK.warm hW, ⟨hD.1, fun _ _ => trivial⟩, by rw [hU]; exact va_X.moved hW.alike (va_X.kept z1 hq), by rw [hU]; exact hbH, hbA⟩⟩ rfl hn hl.1 rfl (lv_room hW) d ⟨hr.2.2.1, hr.2.2.2⟩) hD hS hl kk
theorem v_fin {v : Int32} (e : v = 1) (k : VV X nL ad cs M pc lv [.int 1]) : VV X nL ad cs M pc lv [.int v] := e ▸ k
end VZ
def bs3 {α β δ γ : Type} (x : Option (α ⊕ (β ⊕ δ))) (k : α → Option γ) (j : β → Option γ) (l : δ → Option γ) : Option γ := x.bind fun q => Sum.elim k (Sum.elim j l) q
theorem bs3_e {α β δ γ : Type} {x : Option (α ⊕ (β ⊕ δ))} {k : α → Option γ} {j : β → Option γ} {l : δ → Option γ} {q : γ} (h : bs3 x k j l = some q) : (∃ a, x = some (.inl a) ∧ k a = some q) ∨ (∃ b, x = some (.inr (.inl b)) ∧ j b = some q) ∨ (∃ c, x = some (.inr (.inr c)) ∧ l c = some q) := by
  obtain ⟨a | b | c, h1, h2⟩ := Option.bind_eq_some_iff.mp h
  · exact Or.inl ⟨a, h1, h2⟩
  · exact Or.inr (Or.inl ⟨b, h1, h2⟩)
  · exact Or.inr (Or.inr ⟨c, h1, h2⟩)
def u6 {α β γ δ ε ζ η : Type} (f : α → β → γ → δ → ε → ζ → η) : α × β × γ × δ × ε × ζ → η := fun q => f q.1 q.2.1 q.2.2.1 q.2.2.2.1 q.2.2.2.2.1 q.2.2.2.2.2
