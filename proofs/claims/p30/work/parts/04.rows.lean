/-! ===== a world of numbered cells, and rows over it ===== -/
abbrev XT : Type := Program × Launch × Env × Room × State × MethodId × Array Value × List Frame × Method × Code × va_G × (ClassId × ClassId × ClassId) × (Nat → Prop) × Nat × Nat × (State → Prop)
def ix (i : Int32) : Nat := i.toNatClampNeg
def stI (M : Mm) (c j : Nat) (v : Int32) : Mm := (fun c' => if c' = c then upd (M.1 c) j v else M.1 c', M.2)
def stL (M : Mm) (c j : Nat) (v : Int64) : Mm := (M.1, fun c' => if c' = c then vp_updL (M.2 c) j v else M.2 c')
def cpI (M : Mm) (s sp d dp n : Nat) : Mm := (fun c' => if c' = d then va_cpy (M.1 s) (M.1 d) sp dp n else M.1 c', M.2)
def mfv (ad : Nat → Nat) (M : Mm) (c k : Nat) (f : Fs) : Value := match f with
  | none => .int (M.1 c k)
  | some none => .long (M.2 c k)
  | some (some t) => .ref (ad t)
def mfs (ad : Nat → Nat) (M : Mm) (c : Nat) : Nat → List Fs → List Value
  | _, [] => []
  | k, f :: fs => mfv ad M c k f :: mfs ad M c (k + 1) fs
def mcell (cy : ClassId × ClassId × ClassId) (ad : Nat → Nat) (M : Mm) (c : Nat) (sh : Sh) : va_E := match sh with
  | .inl (ci, fs) => .inr (ci, mfs ad M c 0 fs)
  | .inr (0, n) => .inl (cy.1, n, .inl (M.1 c))
  | .inr (1, n) => .inl (cy.2.1, n, .inr (.inl (M.2 c)))
  | .inr (_, n) => .inl (cy.2.2, n, .inl (M.1 c))
def wl (cy : ClassId × ClassId × ClassId) (ad : Nat → Nat) (cs : List Nat) (M : Mm) : va_W := cs.map (fun c => (ad c, mcell cy ad M c (shp c)))
def dj (A : Nat → Prop) (ad : Nat → Nat) (cs : List Nat) : Prop := (∀ (i j a b : Nat), cs[i]? = some a → cs[j]? = some b → ad a = ad b → i = j) ∧ ∀ c ∈ cs, A (ad c)
def Ad (ad : Nat → Nat) (cs : List Nat) : Nat → Prop := fun q => ∃ c ∈ cs, q = ad c
def nst (U : State) : Prop := ∀ q ∈ nestL, va_Nw (.methodLinkNest q.1 q.2.1 q.2.2.1 q.2.2.2) U
abbrev tys3 (cy : ClassId × ClassId × ClassId) : List (ClassId × FieldType) := [(cy.1, .int), (cy.2.1, .long)]
def KK (D : va_G) (cy : ClassId × ClassId × ClassId) (U : State) : Prop := va_K D vwCl (tys3 cy) U ∧ nst U
theorem KK.warm {D : va_G} {cy : ClassId × ClassId × ClassId} {s U : State} (h : KK D cy s) (hW : s.WarmedH U.vm) : KK D cy U := ⟨va_K.moved hW.alike h.1, fun q hq => va_Nw.warmM hW (h.2 q hq)⟩
theorem KK.same {D : va_G} {cy : ClassId × ClassId × ClassId} {s U : State} (h : KK D cy s) (hv : s.vm = U.vm) : KK D cy U := ⟨va_K.moved (hv ▸ Vm.Alike.refl s.vm) h.1, fun q hq => va_Nw.same rfl hv (h.2 q hq)⟩
def mQ (D : va_G) (cy : ClassId × ClassId × ClassId) (ad : Nat → Nat) (cs : List Nat) (r : Option Value) (M' : Mm) (A : Nat → Prop) : Array Value → State → Outcome → State → Prop := fun _ st o t => (o = .returned r ∧ va_P D vwCl (wl cy ad cs M') t.heap) ∧ va_F A st t
def CT (ad : Nat → Nat) (cs : List Nat) (y : MethodName) (cc : ByteArray) (maxL : Nat) (ret : Option FieldType) (fr lo : Nat) (av : List Value) (M : Mm) (r : Option Value) (M' : Mm) : Prop :=
  ∀ (l : Launch) (D : va_G) (cy : ClassId × ClassId × ClassId), Met l y (.code y cc maxL ret :: tb) ({ frames := fr, cells := 0, slots := 0, locals := lo } : Room) (va_Pc av (fun U => va_P D vwCl (wl cy ad cs M) U.heap ∧ KK D cy U ∧ dj (fun _ => True) ad cs)) (mQ D cy ad cs r M' (Ad ad cs)) 0 0 (Ad ad cs)
def VV (X : XT) (nL : Nat) (ad : Nat → Nat) (cs : List Nat) (M : Mm) (pc : Nat) (lv : List (Nat × Value)) (st : List Value) : Prop := match X with
  | (p, l, e, R, s, m, args, below, meth, c, D, cy, A, kc, ks, Q) => ∀ (H : Heap) (locs : List Loc) (ls : Array Slot), va_P D vwCl (wl cy ad cs M) H → va_S A s.heap H locs → lv_has ls nL lv → W p l e R s m args below meth c H locs kc ks Q (F0 m pc ls st)
def XOK (X : XT) (nL : Nat) (ad : Nat → Nat) (cs : List Nat) (cc : ByteArray) (own : String) (fr lo : Nat) : Prop := match X with
  | (p, _, _, R, s, m, args, _, _, c, D, cy, A, kc, ks, _) => p.tables.exec = Jvm.exec ∧ c.code = cc ∧ c.maxLocals = nL ∧ s.vm.findClass own = some m.cls ∧ (∀ w ∈ tb, w.before args s = true) ∧ KK D cy s ∧ dj A ad cs ∧ fr ≤ R.frames ∧ lo ≤ R.locals ∧ kc ≤ R.cells ∧ ks ≤ R.slots
def XR (X : XT) (ad : Nat → Nat) (cs : List Nat) (ret : Option FieldType) (r : Option Value) (M' : Mm) : Prop := match X with
  | (_, _, _, _, s, _, args, below, meth, _, D, cy, A, kc, ks, Q) => Q = MQ below (mQ D cy ad cs r M' A) args s kc ks A ∧ meth.sig.returnType = ret ∧ meth.locks = false
theorem mfs_get (ad : Nat → Nat) (M : Mm) (c : Nat) : ∀ (fs : List Fs) (k j : Nat), (mfs ad M c k fs)[j]? = (fs[j]?).map (mfv ad M c (k + j))
  | [], k, j => by simp [mfs]
  | f :: fs, k, 0 => by simp [mfs]
  | f :: fs, k, j + 1 => by
    have h := mfs_get ad M c fs (k + 1) j
    simp only [mfs, List.getElem?_cons_succ, h]
    rw [show k + 1 + j = k + (j + 1) by omega]
theorem mfs_len (ad : Nat → Nat) (M : Mm) (c : Nat) : ∀ (fs : List Fs) (k : Nat), (mfs ad M c k fs).length = fs.length
  | [], k => rfl
  | f :: fs, k => by simp [mfs, mfs_len ad M c fs (k + 1)]
theorem stI_at (M : Mm) (c j : Nat) (v : Int32) : (stI M c j v).1 c = upd (M.1 c) j v := by simp [stI]
theorem stL_at (M : Mm) (c j : Nat) (v : Int64) : (stL M c j v).2 c = vp_updL (M.2 c) j v := by simp [stL]
theorem cpI_at (M : Mm) (s sp d dp n : Nat) : (cpI M s sp d dp n).1 d = va_cpy (M.1 s) (M.1 d) sp dp n := by simp [cpI]
theorem stI_off {M : Mm} {c j : Nat} {v : Int32} {c' : Nat} (h : c' ≠ c) : (stI M c j v).1 c' = M.1 c' ∧ (stI M c j v).2 c' = M.2 c' := by simp [stI, h]
theorem stL_off {M : Mm} {c j : Nat} {v : Int64} {c' : Nat} (h : c' ≠ c) : (stL M c j v).1 c' = M.1 c' ∧ (stL M c j v).2 c' = M.2 c' := by simp [stL, h]
theorem cpI_off {M : Mm} {s sp d dp n : Nat} {c' : Nat} (h : c' ≠ d) : (cpI M s sp d dp n).1 c' = M.1 c' ∧ (cpI M s sp d dp n).2 c' = M.2 c' := by simp [cpI, h]
theorem mfs_setI (ad : Nat → Nat) (M : Mm) (c j : Nat) (v : Int32) (fs : List Fs) (hf : fs[j]? = some none) : (mfs ad M c 0 fs).set j (.int v) = mfs ad (stI M c j v) c 0 fs := by
  apply List.ext_getElem?
  intro i
  rw [List.getElem?_set, mfs_get, mfs_get, mfs_len]
  by_cases h : j = i
  · subst h
    obtain ⟨hlt, hf'⟩ := List.getElem?_eq_some_iff.mp hf
    simp [hf', hlt, mfv, stI_at, upd]
  · simp only [h, if_false]
    have hi : ¬ i = j := fun e => h e.symm
    cases fs[i]? with
    | none => rfl
    | some f => match f with
      | none => simp [mfv, stI_at, upd, hi]
      | some none => simp [mfv, stI]
      | some (some t) => rfl
theorem mfs_setL (ad : Nat → Nat) (M : Mm) (c j : Nat) (v : Int64) (fs : List Fs) (hf : fs[j]? = some (some none)) : (mfs ad M c 0 fs).set j (.long v) = mfs ad (stL M c j v) c 0 fs := by
  apply List.ext_getElem?
  intro i
  rw [List.getElem?_set, mfs_get, mfs_get, mfs_len]
  by_cases h : j = i
  · subst h
    obtain ⟨hlt, hf'⟩ := List.getElem?_eq_some_iff.mp hf
    simp [hf', hlt, mfv, stL_at, vp_updL]
  · simp only [h, if_false]
    have hi : ¬ i = j := fun e => h e.symm
    cases fs[i]? with
    | none => rfl
    | some f => match f with
      | none => simp [mfv, stL]
      | some none => simp [mfv, stL_at, vp_updL, hi]
      | some (some t) => rfl
theorem mfv_congr {ad : Nat → Nat} {M M' : Mm} {c : Nat} (h : M'.1 c = M.1 c ∧ M'.2 c = M.2 c) (k : Nat) (f : Fs) : mfv ad M' c k f = mfv ad M c k f := by
  match f with
  | none => simp [mfv, h.1]
  | some none => simp [mfv, h.2]
  | some (some t) => rfl
theorem mfs_congr {ad : Nat → Nat} {M M' : Mm} {c : Nat} (h : M'.1 c = M.1 c ∧ M'.2 c = M.2 c) : ∀ (fs : List Fs) (k : Nat), mfs ad M' c k fs = mfs ad M c k fs
  | [], k => rfl
  | f :: fs, k => by simp only [mfs, mfs_congr h fs (k + 1), mfv_congr h]
theorem mcell_congr {cy : ClassId × ClassId × ClassId} {ad : Nat → Nat} {M M' : Mm} {c : Nat} (h : M'.1 c = M.1 c ∧ M'.2 c = M.2 c) (sh : Sh) : mcell cy ad M' c sh = mcell cy ad M c sh := by
  match sh with
  | .inl (ci, fs) => simp only [mcell, mfs_congr h]
  | .inr (0, n) => simp only [mcell, h.1]
  | .inr (1, n) => simp only [mcell, h.2]
  | .inr (k + 2, n) => simp only [mcell, h.1]
theorem wl_at {cy : ClassId × ClassId × ClassId} {ad : Nat → Nat} {cs : List Nat} {M : Mm} {q0 c : Nat} (hq : cs[q0]? = some c) : (wl cy ad cs M)[q0]? = some (ad c, mcell cy ad M c (shp c)) := by simp [wl, hq]
theorem wl_set {A : Nat → Prop} {cy : ClassId × ClassId × ClassId} {ad : Nat → Nat} {cs : List Nat} {M M' : Mm} {q0 c : Nat} (hd : dj A ad cs) (hq : cs[q0]? = some c) (hM : ∀ c', c' ≠ c → M'.1 c' = M.1 c' ∧ M'.2 c' = M.2 c') :
    (wl cy ad cs M).set q0 (ad c, mcell cy ad M' c (shp c)) = wl cy ad cs M' := by
  apply List.ext_getElem?
  intro i
  rw [List.getElem?_set]
  have hlt : q0 < (wl cy ad cs M).length := by simpa [wl] using (List.getElem?_eq_some_iff.mp hq).1
  by_cases h : q0 = i
  · subst h
    simp only [if_true, hlt, wl_at hq]
  · simp only [h, if_false]
    simp only [wl, List.getElem?_map]
    cases hi : cs[i]? with
    | none => rfl
    | some c' =>
      have hne : c' ≠ c := fun e => h (hd.1 q0 i c c' hq hi (by rw [e]))
      simp only [Option.map_some, mcell_congr (hM c' hne)]
theorem wl_D {A : Nat → Prop} {cy : ClassId × ClassId × ClassId} {ad : Nat → Nat} {cs : List Nat} (hd : dj A ad cs) (M : Mm) : va_D A (wl cy ad cs M) := by
  refine ⟨fun i j p q hi hj e => ?_, fun k q hk => ?_⟩
  · simp only [wl, List.getElem?_map, Option.map_eq_some_iff] at hi hj
    obtain ⟨a, ha, rfl⟩ := hi
    obtain ⟨b, hb, rfl⟩ := hj
    exact hd.1 i j a b ha hb e
  · simp only [wl, List.getElem?_map, Option.map_eq_some_iff] at hk
    obtain ⟨a, ha, rfl⟩ := hk
    exact hd.2 a (List.mem_of_getElem? ha)
theorem goodIn_tb {w : Cond} (h : w ∈ tb) : GoodIn tb (w :: tb) := fun x hx => by
  have h1 : x ∈ tb := (List.mem_cons.mp hx).elim (fun e => e ▸ h) id
  exact ⟨h1, good_of_word (List.mem_filter.mp h1).2⟩
theorem CT.of {ad : Nat → Nat} {cs : List Nat} {y : MethodName} {cc : ByteArray} {maxL : Nat} {ret : Option FieldType} {fr lo : Nat} {av : List Value} {M M' : Mm} {r : Option Value} (own : String) (hy : plainName y.cls = true) (ho : y.cls = own) (hlen : (lg_sl av).length ≤ maxL)
    (body : ∀ X : XT, XOK X maxL ad cs cc own fr lo → XR X ad cs ret r M' → VV X maxL ad cs M 0 (lv_args 0 av) []) : CT ad cs y cc maxL ret fr lo av M r M' := by
  intro l D cy
  refine Met.ofW (cc := cc) (maxL := maxL) (ret := ret) hy rfl ?_
  intro p e s m args below meth c s₁ B hml hv
  obtain ⟨rfl, hP, hK, hD⟩ := hv
  have hts := atoms_spec (ws := .code y cc maxL ret :: tb) B.pre
  have hown : s.vm.findClass own = some m.cls := by rw [← ho]; exact findClass_of_methodNamed B.named
  have hX := body (p, l, e, ({ frames := fr, cells := 0, slots := 0, locals := lo } : Room), s, m, av.toArray, below, meth, c, D, cy, Ad ad cs, 0, 0, _) ⟨B.exec, B.bytes, hml, hown, fun w h => hts w (List.mem_cons_of_mem _ h), hK, ⟨hD.1, fun c hc => ⟨c, hc, rfl⟩⟩, Nat.le_refl _, Nat.le_refl _, Nat.zero_le _, Nat.zero_le _⟩ ⟨rfl, B.returns, B.notSynchronized⟩
  have hl := lv_entry av (n := maxL) hlen
  rw [lg_entry_eq]
  exact hX s.heap [] _ hP va_S.rf hl
section VR
variable {X : XT} {nL : Nat} {ad : Nat → Nat} {cs : List Nat} {cc : ByteArray} {own : String} {fr lo : Nat} {M M' : Mm} {pc : Nat} {lv lv' : List (Nat × Value)} {st : List Value}
theorem v_iconst {n : Int} {v : Int32} (hX : XOK X nL ad cs cc own fr lo) (d : decode cc pc = .ok (.iconst n, 1)) (hv : Int32.ofInt n = v) (k : VV X nL ad cs M (pc + 1) lv (.int v :: st)) : VV X nL ad cs M pc lv st := by
  obtain ⟨p, l, e, R, s, m, args, below, meth, c, D, cy, A, kc, ks, Q⟩ := X
  intro H locs ls hP hS hl
  exact lv_iconst hX.1 hX.2.1 d hv (k H locs ls hP hS hl)
theorem v_bipush {n : Int} {v : Int32} (hX : XOK X nL ad cs cc own fr lo) (d : decode cc pc = .ok (.bipush n, 2)) (hv : (Int8.ofInt n).toInt32 = v) (k : VV X nL ad cs M (pc + 2) lv (.int v :: st)) : VV X nL ad cs M pc lv st := by
  obtain ⟨p, l, e, R, s, m, args, below, meth, c, D, cy, A, kc, ks, Q⟩ := X
  intro H locs ls hP hS hl
  exact lv_bipush hX.1 hX.2.1 d hv (k H locs ls hP hS hl)
theorem v_sipush {n : Int} {v : Int32} (hX : XOK X nL ad cs cc own fr lo) (d : decode cc pc = .ok (.sipush n, 3)) (hv : (Int16.ofInt n).toInt32 = v) (k : VV X nL ad cs M (pc + 3) lv (.int v :: st)) : VV X nL ad cs M pc lv st := by
  obtain ⟨p, l, e, R, s, m, args, below, meth, c, D, cy, A, kc, ks, Q⟩ := X
  intro H locs ls hP hS hl
  exact lv_sipush hX.1 hX.2.1 d hv (k H locs ls hP hS hl)
theorem v_lconst {n : Fin 2} {v : Int64} (hX : XOK X nL ad cs cc own fr lo) (d : decode cc pc = .ok (.lconst n, 1)) (hv : Int64.ofNat (n : Nat) = v) (k : VV X nL ad cs M (pc + 1) lv (.long v :: st)) : VV X nL ad cs M pc lv st := by
  obtain ⟨p, l, e, R, s, m, args, below, meth, c, D, cy, A, kc, ks, Q⟩ := X
  intro H locs ls hP hS hl
  exact lv_lconst hX.1 hX.2.1 d hv (k H locs ls hP hS hl)
theorem v_ldc {i : Nat} {v : Int32} (hX : XOK X nL ad cs cc own fr lo) (hw : Cond.constant own i v ∈ tb) (d : decode cc pc = .ok (.ldc i, 2)) (k : VV X nL ad cs M (pc + 2) lv (.int v :: st)) : VV X nL ad cs M pc lv st := by
  obtain ⟨p, l, e, R, s, m, args, below, meth, c, D, cy, A, kc, ks, Q⟩ := X
  intro H locs ls hP hS hl
  exact lv_ldc hX.1 hX.2.1 hX.2.2.2.1 (hX.2.2.2.2.1 _ hw) d (k H locs ls hP hS hl)
theorem v_ldc2 {i : Nat} {v : Int64} (hX : XOK X nL ad cs cc own fr lo) (hw : Cond.constantLong own i v ∈ tb) (d : decode cc pc = .ok (.ldc2_w i, 3)) (k : VV X nL ad cs M (pc + 3) lv (.long v :: st)) : VV X nL ad cs M pc lv st := by
  obtain ⟨p, l, e, R, s, m, args, below, meth, c, D, cy, A, kc, ks, Q⟩ := X
  intro H locs ls hP hS hl
  exact lv_ldc2 hX.1 hX.2.1 hX.2.2.2.1 (hX.2.2.2.2.1 _ hw) d (k H locs ls hP hS hl)
theorem v_iload_n {f : Fin 4} {x : Int32} (j : Nat) (hX : XOK X nL ad cs cc own fr lo) (d : decode cc pc = .ok (.iload_n f, 1)) (hj : lv[j]? = some ((f : Nat), .int x)) (k : VV X nL ad cs M (pc + 1) lv (.int x :: st)) : VV X nL ad cs M pc lv st := by
  obtain ⟨p, l, e, R, s, m, args, below, meth, c, D, cy, A, kc, ks, Q⟩ := X
  intro H locs ls hP hS hl
  exact lv_iload_n hX.1 hX.2.1 d rfl (lv_at hl j hj) (k H locs ls hP hS hl)
theorem v_iload {i : Nat} {x : Int32} (j : Nat) (hX : XOK X nL ad cs cc own fr lo) (d : decode cc pc = .ok (.iload i, 2)) (hj : lv[j]? = some (i, .int x)) (k : VV X nL ad cs M (pc + 2) lv (.int x :: st)) : VV X nL ad cs M pc lv st := by
  obtain ⟨p, l, e, R, s, m, args, below, meth, c, D, cy, A, kc, ks, Q⟩ := X
  intro H locs ls hP hS hl
  exact lv_iload hX.1 hX.2.1 d (lv_at hl j hj) (k H locs ls hP hS hl)
theorem v_lload_n {f : Fin 4} {x : Int64} (j : Nat) (hX : XOK X nL ad cs cc own fr lo) (d : decode cc pc = .ok (.lload_n f, 1)) (hj : lv[j]? = some ((f : Nat), .long x)) (k : VV X nL ad cs M (pc + 1) lv (.long x :: st)) : VV X nL ad cs M pc lv st := by
  obtain ⟨p, l, e, R, s, m, args, below, meth, c, D, cy, A, kc, ks, Q⟩ := X
  intro H locs ls hP hS hl
  exact lv_lload_n hX.1 hX.2.1 d rfl (lv_at hl j hj) (k H locs ls hP hS hl)
theorem v_lload {i : Nat} {x : Int64} (j : Nat) (hX : XOK X nL ad cs cc own fr lo) (d : decode cc pc = .ok (.lload i, 2)) (hj : lv[j]? = some (i, .long x)) (k : VV X nL ad cs M (pc + 2) lv (.long x :: st)) : VV X nL ad cs M pc lv st := by
  obtain ⟨p, l, e, R, s, m, args, below, meth, c, D, cy, A, kc, ks, Q⟩ := X
  intro H locs ls hP hS hl
  exact lv_lload hX.1 hX.2.1 d (lv_at hl j hj) (k H locs ls hP hS hl)
theorem v_aload_n {f : Fin 4} {x : Nat} (j : Nat) (hX : XOK X nL ad cs cc own fr lo) (d : decode cc pc = .ok (.aload_n f, 1)) (hj : lv[j]? = some ((f : Nat), .ref x)) (k : VV X nL ad cs M (pc + 1) lv (.ref x :: st)) : VV X nL ad cs M pc lv st := by
  obtain ⟨p, l, e, R, s, m, args, below, meth, c, D, cy, A, kc, ks, Q⟩ := X
  intro H locs ls hP hS hl
  exact lv_aload_n hX.1 hX.2.1 d rfl (lv_at hl j hj) (k H locs ls hP hS hl)
theorem v_aload {i x : Nat} (j : Nat) (hX : XOK X nL ad cs cc own fr lo) (d : decode cc pc = .ok (.aload i, 2)) (hj : lv[j]? = some (i, .ref x)) (k : VV X nL ad cs M (pc + 2) lv (.ref x :: st)) : VV X nL ad cs M pc lv st := by
  obtain ⟨p, l, e, R, s, m, args, below, meth, c, D, cy, A, kc, ks, Q⟩ := X
  intro H locs ls hP hS hl
  exact lv_aload hX.1 hX.2.1 d (lv_at hl j hj) (k H locs ls hP hS hl)
theorem v_istore_n {f : Fin 4} {x : Int32} (lv' : List (Nat × Value)) (hX : XOK X nL ad cs cc own fr lo) (d : decode cc pc = .ok (.istore_n f, 1)) (hn : (f : Nat) < nL) (hl' : ((f : Nat), Value.int x) :: lv.filter (fun q => !(q.1 == (f : Nat)) && !(q.1 + 1 == (f : Nat) && q.2.category == 2)) = lv') (k : VV X nL ad cs M (pc + 1) lv' st) : VV X nL ad cs M pc lv (.int x :: st) := by
  obtain ⟨p, l, e, R, s, m, args, below, meth, c, D, cy, A, kc, ks, Q⟩ := X
  intro H locs ls hP hS hl
  exact lv_istore_n hX.1 hX.2.1 d rfl hl hn hl' (fun ls' h' => k H locs ls' hP hS h')
theorem v_istore {i : Nat} {x : Int32} (lv' : List (Nat × Value)) (hX : XOK X nL ad cs cc own fr lo) (d : decode cc pc = .ok (.istore i, 2)) (hn : i < nL) (hl' : (i, Value.int x) :: lv.filter (fun q => !(q.1 == i) && !(q.1 + 1 == i && q.2.category == 2)) = lv') (k : VV X nL ad cs M (pc + 2) lv' st) : VV X nL ad cs M pc lv (.int x :: st) := by
  obtain ⟨p, l, e, R, s, m, args, below, meth, c, D, cy, A, kc, ks, Q⟩ := X
  intro H locs ls hP hS hl
  exact lv_istore hX.1 hX.2.1 d hl hn hl' (fun ls' h' => k H locs ls' hP hS h')
theorem v_lstore_n {f : Fin 4} {x : Int64} (lv' : List (Nat × Value)) (hX : XOK X nL ad cs cc own fr lo) (d : decode cc pc = .ok (.lstore_n f, 1)) (hn : (f : Nat) + 1 < nL) (hl' : ((f : Nat), Value.long x) :: lv.filter (fun q => !(q.1 == (f : Nat)) && (!(q.1 == (f : Nat) + 1) && !(q.1 + 1 == (f : Nat) && q.2.category == 2))) = lv') (k : VV X nL ad cs M (pc + 1) lv' st) : VV X nL ad cs M pc lv (.long x :: st) := by
  obtain ⟨p, l, e, R, s, m, args, below, meth, c, D, cy, A, kc, ks, Q⟩ := X
  intro H locs ls hP hS hl
  exact lv_lstore_n hX.1 hX.2.1 d rfl hl hn hl' (fun ls' h' => k H locs ls' hP hS h')
theorem v_lstore {i : Nat} {x : Int64} (lv' : List (Nat × Value)) (hX : XOK X nL ad cs cc own fr lo) (d : decode cc pc = .ok (.lstore i, 2)) (hn : i + 1 < nL) (hl' : (i, Value.long x) :: lv.filter (fun q => !(q.1 == i) && (!(q.1 == i + 1) && !(q.1 + 1 == i && q.2.category == 2))) = lv') (k : VV X nL ad cs M (pc + 2) lv' st) : VV X nL ad cs M pc lv (.long x :: st) := by
  obtain ⟨p, l, e, R, s, m, args, below, meth, c, D, cy, A, kc, ks, Q⟩ := X
  intro H locs ls hP hS hl
  exact lv_lstore hX.1 hX.2.1 d hl hn hl' (fun ls' h' => k H locs ls' hP hS h')
theorem v_astore_n {f : Fin 4} {x : Nat} (lv' : List (Nat × Value)) (hX : XOK X nL ad cs cc own fr lo) (d : decode cc pc = .ok (.astore_n f, 1)) (hn : (f : Nat) < nL) (hl' : ((f : Nat), Value.ref x) :: lv.filter (fun q => !(q.1 == (f : Nat)) && !(q.1 + 1 == (f : Nat) && q.2.category == 2)) = lv') (k : VV X nL ad cs M (pc + 1) lv' st) : VV X nL ad cs M pc lv (.ref x :: st) := by
  obtain ⟨p, l, e, R, s, m, args, below, meth, c, D, cy, A, kc, ks, Q⟩ := X
  intro H locs ls hP hS hl
  exact lv_astore_n hX.1 hX.2.1 d rfl hl hn hl' (fun ls' h' => k H locs ls' hP hS h')
theorem v_astore {i x : Nat} (lv' : List (Nat × Value)) (hX : XOK X nL ad cs cc own fr lo) (d : decode cc pc = .ok (.astore i, 2)) (hn : i < nL) (hl' : (i, Value.ref x) :: lv.filter (fun q => !(q.1 == i) && !(q.1 + 1 == i && q.2.category == 2)) = lv') (k : VV X nL ad cs M (pc + 2) lv' st) : VV X nL ad cs M pc lv (.ref x :: st) := by
  obtain ⟨p, l, e, R, s, m, args, below, meth, c, D, cy, A, kc, ks, Q⟩ := X
  intro H locs ls hP hS hl
  exact lv_astore hX.1 hX.2.1 d hl hn hl' (fun ls' h' => k H locs ls' hP hS h')
theorem v_iinc {i : Nat} {n : Int} {x v : Int32} (j : Nat) (lv' : List (Nat × Value)) (hX : XOK X nL ad cs cc own fr lo) (d : decode cc pc = .ok (.iinc i n, 3)) (hj : lv[j]? = some (i, .int x)) (hv : v = x + Int32.ofInt n) (hn : i < nL) (hl' : (i, Value.int v) :: lv.filter (fun q => !(q.1 == i) && !(q.1 + 1 == i && q.2.category == 2)) = lv') (k : VV X nL ad cs M (pc + 3) lv' st) : VV X nL ad cs M pc lv st := by
  obtain ⟨p, l, e, R, s, m, args, below, meth, c, D, cy, A, kc, ks, Q⟩ := X
  intro H locs ls hP hS hl
  exact lv_iinc hX.1 hX.2.1 d hl hj hv.symm hn hl' (fun ls' h' => k H locs ls' hP hS h')
theorem v_top {x y : Int32} (e : y = x) (k : VV X nL ad cs M pc lv (.int y :: st)) : VV X nL ad cs M pc lv (.int x :: st) := e ▸ k
theorem v_topl {x y : Int64} (e : y = x) (k : VV X nL ad cs M pc lv (.long y :: st)) : VV X nL ad cs M pc lv (.long x :: st) := e ▸ k
theorem v_mem (e : M' = M) (k : VV X nL ad cs M' pc lv st) : VV X nL ad cs M pc lv st := e ▸ k
theorem v_sub (is : List Nat) (e : lv_pick lv is = lv') (k : VV X nL ad cs M pc lv' st) : VV X nL ad cs M pc lv st := by
  obtain ⟨p, l, e, R, s, m, args, below, meth, c, D, cy, A, kc, ks, Q⟩ := X
  intro H locs ls hP hS hl
  exact k H locs ls hP hS (lv_sub hl is (by assumption))
theorem v_goto {off : Int} {tgt : Nat} (hX : XOK X nL ad cs cc own fr lo) (d : decode cc pc = .ok (.goto off, 3)) (ht : (pc : Int) + off = (tgt : Int)) (k : VV X nL ad cs M tgt lv st) : VV X nL ad cs M pc lv st := by
  obtain ⟨p, l, e, R, s, m, args, below, meth, c, D, cy, A, kc, ks, Q⟩ := X
  intro H locs ls hP hS hl
  exact lv_goto hX.1 hX.2.1 d ht (k H locs ls hP hS hl)
theorem v_dup {va : Value} (hX : XOK X nL ad cs cc own fr lo) (d : decode cc pc = .ok (.dup, 1)) (h : va.category = 1) (k : VV X nL ad cs M (pc + 1) lv (va :: va :: st)) : VV X nL ad cs M pc lv (va :: st) := by
  obtain ⟨p, l, e, R, s, m, args, below, meth, c, D, cy, A, kc, ks, Q⟩ := X
  intro H locs ls hP hS hl
  exact lv_dup hX.1 hX.2.1 d h (k H locs ls hP hS hl)
theorem v_dup2 {va vb : Value} (hX : XOK X nL ad cs cc own fr lo) (d : decode cc pc = .ok (.dup2, 1)) (h : va.category = 1) (h2 : vb.category = 1) (k : VV X nL ad cs M (pc + 1) lv (va :: vb :: va :: vb :: st)) : VV X nL ad cs M pc lv (va :: vb :: st) := by
  obtain ⟨p, l, e, R, s, m, args, below, meth, c, D, cy, A, kc, ks, Q⟩ := X
  intro H locs ls hP hS hl
  exact lv_dup2_11 hX.1 hX.2.1 d h h2 (k H locs ls hP hS hl)
theorem v_pop {va : Value} (hX : XOK X nL ad cs cc own fr lo) (d : decode cc pc = .ok (.pop, 1)) (h : va.category = 1) (k : VV X nL ad cs M (pc + 1) lv st) : VV X nL ad cs M pc lv (va :: st) := by
  obtain ⟨p, l, e, R, s, m, args, below, meth, c, D, cy, A, kc, ks, Q⟩ := X
  intro H locs ls hP hS hl
  exact lv_pop hX.1 hX.2.1 d h (k H locs ls hP hS hl)
theorem v_lcmp {x y : Int64} (hX : XOK X nL ad cs cc own fr lo) (d : decode cc pc = .ok (.lcmp, 1)) (k : VV X nL ad cs M (pc + 1) lv (.int (lg_cmp x y) :: st)) : VV X nL ad cs M pc lv (.long y :: .long x :: st) := by
  obtain ⟨p, l, e, R, s, m, args, below, meth, c, D, cy, A, kc, ks, Q⟩ := X
  intro H locs ls hP hS hl
  exact W.lcmp hX.1 hX.2.1 d (k H locs ls hP hS hl)
theorem v_i2l {x : Int32} (hX : XOK X nL ad cs cc own fr lo) (d : decode cc pc = .ok (.i2l, 1)) (k : VV X nL ad cs M (pc + 1) lv (.long x.toInt64 :: st)) : VV X nL ad cs M pc lv (.int x :: st) := by
  obtain ⟨p, l, e, R, s, m, args, below, meth, c, D, cy, A, kc, ks, Q⟩ := X
  intro H locs ls hP hS hl
  exact lv_i2l hX.1 hX.2.1 d rfl (k H locs ls hP hS hl)
def i2c (x : Int32) : Int32 := (x.toUInt32 % 65536).toInt32
theorem v_i2c {x : Int32} (hX : XOK X nL ad cs cc own fr lo) (d : decode cc pc = .ok (.i2c, 1)) (k : VV X nL ad cs M (pc + 1) lv (.int (i2c x) :: st)) : VV X nL ad cs M pc lv (.int x :: st) := by
  obtain ⟨p, l, e, R, s, m, args, below, meth, c, D, cy, A, kc, ks, Q⟩ := X
  intro H locs ls hP hS hl
  exact lv_i2c hX.1 hX.2.1 d rfl (k H locs ls hP hS hl)
theorem v_iadd {x y : Int32} (hX : XOK X nL ad cs cc own fr lo) (d : decode cc pc = .ok (.iadd, 1)) (k : VV X nL ad cs M (pc + 1) lv (.int (x + y) :: st)) : VV X nL ad cs M pc lv (.int y :: .int x :: st) := by
  obtain ⟨p, l, e, R, s, m, args, below, meth, c, D, cy, A, kc, ks, Q⟩ := X
  intro H locs ls hP hS hl
  exact lv_iadd hX.1 hX.2.1 d (k H locs ls hP hS hl)
theorem v_isub {x y : Int32} (hX : XOK X nL ad cs cc own fr lo) (d : decode cc pc = .ok (.isub, 1)) (k : VV X nL ad cs M (pc + 1) lv (.int (x - y) :: st)) : VV X nL ad cs M pc lv (.int y :: .int x :: st) := by
  obtain ⟨p, l, e, R, s, m, args, below, meth, c, D, cy, A, kc, ks, Q⟩ := X
  intro H locs ls hP hS hl
  exact lv_isub hX.1 hX.2.1 d (k H locs ls hP hS hl)
theorem v_imul {x y : Int32} (hX : XOK X nL ad cs cc own fr lo) (d : decode cc pc = .ok (.imul, 1)) (k : VV X nL ad cs M (pc + 1) lv (.int (x * y) :: st)) : VV X nL ad cs M pc lv (.int y :: .int x :: st) := by
  obtain ⟨p, l, e, R, s, m, args, below, meth, c, D, cy, A, kc, ks, Q⟩ := X
  intro H locs ls hP hS hl
  exact lv_imul hX.1 hX.2.1 d (k H locs ls hP hS hl)
theorem v_iand {x y : Int32} (hX : XOK X nL ad cs cc own fr lo) (d : decode cc pc = .ok (.iand, 1)) (k : VV X nL ad cs M (pc + 1) lv (.int (x &&& y) :: st)) : VV X nL ad cs M pc lv (.int y :: .int x :: st) := by
  obtain ⟨p, l, e, R, s, m, args, below, meth, c, D, cy, A, kc, ks, Q⟩ := X
  intro H locs ls hP hS hl
  exact lv_iand hX.1 hX.2.1 d (k H locs ls hP hS hl)
theorem v_ior {x y : Int32} (hX : XOK X nL ad cs cc own fr lo) (d : decode cc pc = .ok (.ior, 1)) (k : VV X nL ad cs M (pc + 1) lv (.int (x ||| y) :: st)) : VV X nL ad cs M pc lv (.int y :: .int x :: st) := by
  obtain ⟨p, l, e, R, s, m, args, below, meth, c, D, cy, A, kc, ks, Q⟩ := X
  intro H locs ls hP hS hl
  exact lv_ior hX.1 hX.2.1 d (k H locs ls hP hS hl)
theorem v_ishl {x y : Int32} (hX : XOK X nL ad cs cc own fr lo) (d : decode cc pc = .ok (.ishl, 1)) (k : VV X nL ad cs M (pc + 1) lv (.int (x <<< (y &&& 31)) :: st)) : VV X nL ad cs M pc lv (.int y :: .int x :: st) := by
  obtain ⟨p, l, e, R, s, m, args, below, meth, c, D, cy, A, kc, ks, Q⟩ := X
  intro H locs ls hP hS hl
  exact lv_ishl hX.1 hX.2.1 d (k H locs ls hP hS hl)
theorem v_ishr {x y : Int32} (hX : XOK X nL ad cs cc own fr lo) (d : decode cc pc = .ok (.ishr, 1)) (k : VV X nL ad cs M (pc + 1) lv (.int (x >>> (y &&& 31)) :: st)) : VV X nL ad cs M pc lv (.int y :: .int x :: st) := by
  obtain ⟨p, l, e, R, s, m, args, below, meth, c, D, cy, A, kc, ks, Q⟩ := X
  intro H locs ls hP hS hl
  exact lv_ishr hX.1 hX.2.1 d (k H locs ls hP hS hl)
theorem v_ladd {x y : Int64} (hX : XOK X nL ad cs cc own fr lo) (d : decode cc pc = .ok (.ladd, 1)) (k : VV X nL ad cs M (pc + 1) lv (.long (x + y) :: st)) : VV X nL ad cs M pc lv (.long y :: .long x :: st) := by
  obtain ⟨p, l, e, R, s, m, args, below, meth, c, D, cy, A, kc, ks, Q⟩ := X
  intro H locs ls hP hS hl
  exact lv_ladd hX.1 hX.2.1 d (k H locs ls hP hS hl)
theorem v_lsub {x y : Int64} (hX : XOK X nL ad cs cc own fr lo) (d : decode cc pc = .ok (.lsub, 1)) (k : VV X nL ad cs M (pc + 1) lv (.long (x - y) :: st)) : VV X nL ad cs M pc lv (.long y :: .long x :: st) := by
  obtain ⟨p, l, e, R, s, m, args, below, meth, c, D, cy, A, kc, ks, Q⟩ := X
  intro H locs ls hP hS hl
  exact lv_lsub hX.1 hX.2.1 d (k H locs ls hP hS hl)
theorem v_lmul {x y : Int64} (hX : XOK X nL ad cs cc own fr lo) (d : decode cc pc = .ok (.lmul, 1)) (k : VV X nL ad cs M (pc + 1) lv (.long (x * y) :: st)) : VV X nL ad cs M pc lv (.long y :: .long x :: st) := by
  obtain ⟨p, l, e, R, s, m, args, below, meth, c, D, cy, A, kc, ks, Q⟩ := X
  intro H locs ls hP hS hl
  exact lv_lmul hX.1 hX.2.1 d (k H locs ls hP hS hl)
theorem v_idiv {x y : Int32} (hX : XOK X nL ad cs cc own fr lo) (d : decode cc pc = .ok (.idiv, 1)) (hne : ¬ y = 0) (k : VV X nL ad cs M (pc + 1) lv (.int (x / y) :: st)) : VV X nL ad cs M pc lv (.int y :: .int x :: st) := by
  obtain ⟨p, l, e, R, s, m, args, below, meth, c, D, cy, A, kc, ks, Q⟩ := X
  intro H locs ls hP hS hl
  exact lv_idiv hX.1 hX.2.1 d hne (k H locs ls hP hS hl)
def rm (x y : Int32) : Int32 := x - x / y * y
theorem v_irem {x y : Int32} (hX : XOK X nL ad cs cc own fr lo) (d : decode cc pc = .ok (.irem, 1)) (hne : ¬ y = 0) (k : VV X nL ad cs M (pc + 1) lv (.int (rm x y) :: st)) : VV X nL ad cs M pc lv (.int y :: .int x :: st) := by
  obtain ⟨p, l, e, R, s, m, args, below, meth, c, D, cy, A, kc, ks, Q⟩ := X
  intro H locs ls hP hS hl
  exact lv_irem hX.1 hX.2.1 d hne (k H locs ls hP hS hl)
theorem v_ineg {x : Int32} (hX : XOK X nL ad cs cc own fr lo) (d : decode cc pc = .ok (.ineg, 1)) (k : VV X nL ad cs M (pc + 1) lv (.int (-x) :: st)) : VV X nL ad cs M pc lv (.int x :: st) := by
  obtain ⟨p, l, e, R, s, m, args, below, meth, c, D, cy, A, kc, ks, Q⟩ := X
  intro H locs ls hP hS hl
  exact lv_ineg hX.1 hX.2.1 d (k H locs ls hP hS hl)
theorem v_if_eq {x : Int32} {off : Int} {tgt : Nat} (hX : XOK X nL ad cs cc own fr lo) (d : decode cc pc = .ok (.ifCond .eq off, 3)) (ht : (pc : Int) + off = (tgt : Int)) (kt : x = 0 → VV X nL ad cs M tgt lv st) (kf : ¬ x = 0 → VV X nL ad cs M (pc + 3) lv st) : VV X nL ad cs M pc lv (.int x :: st) := by
  obtain ⟨p, l, e, R, s, m, args, below, meth, c, D, cy, A, kc, ks, Q⟩ := X
  intro H locs ls hP hS hl
  exact lv_if_eq hX.1 hX.2.1 d ht (fun h => kt h H locs ls hP hS hl) (fun h => kf h H locs ls hP hS hl)
theorem v_icmp_eq {x y : Int32} {off : Int} {tgt : Nat} (hX : XOK X nL ad cs cc own fr lo) (d : decode cc pc = .ok (.if_icmp .eq off, 3)) (ht : (pc : Int) + off = (tgt : Int)) (kt : x = y → VV X nL ad cs M tgt lv st) (kf : ¬ x = y → VV X nL ad cs M (pc + 3) lv st) : VV X nL ad cs M pc lv (.int y :: .int x :: st) := by
  obtain ⟨p, l, e, R, s, m, args, below, meth, c, D, cy, A, kc, ks, Q⟩ := X
  intro H locs ls hP hS hl
  exact lv_icmp_eq hX.1 hX.2.1 d ht (fun h => kt h H locs ls hP hS hl) (fun h => kf h H locs ls hP hS hl)
theorem v_if_ne {x : Int32} {off : Int} {tgt : Nat} (hX : XOK X nL ad cs cc own fr lo) (d : decode cc pc = .ok (.ifCond .ne off, 3)) (ht : (pc : Int) + off = (tgt : Int)) (kt : ¬ x = 0 → VV X nL ad cs M tgt lv st) (kf : x = 0 → VV X nL ad cs M (pc + 3) lv st) : VV X nL ad cs M pc lv (.int x :: st) := by
  obtain ⟨p, l, e, R, s, m, args, below, meth, c, D, cy, A, kc, ks, Q⟩ := X
  intro H locs ls hP hS hl
  exact lv_if_ne hX.1 hX.2.1 d ht (fun h => kt h H locs ls hP hS hl) (fun h => kf h H locs ls hP hS hl)
theorem v_icmp_ne {x y : Int32} {off : Int} {tgt : Nat} (hX : XOK X nL ad cs cc own fr lo) (d : decode cc pc = .ok (.if_icmp .ne off, 3)) (ht : (pc : Int) + off = (tgt : Int)) (kt : ¬ x = y → VV X nL ad cs M tgt lv st) (kf : x = y → VV X nL ad cs M (pc + 3) lv st) : VV X nL ad cs M pc lv (.int y :: .int x :: st) := by
  obtain ⟨p, l, e, R, s, m, args, below, meth, c, D, cy, A, kc, ks, Q⟩ := X
  intro H locs ls hP hS hl
  exact lv_icmp_ne hX.1 hX.2.1 d ht (fun h => kt h H locs ls hP hS hl) (fun h => kf h H locs ls hP hS hl)
theorem v_if_lt {x : Int32} {off : Int} {tgt : Nat} (hX : XOK X nL ad cs cc own fr lo) (d : decode cc pc = .ok (.ifCond .lt off, 3)) (ht : (pc : Int) + off = (tgt : Int)) (kt : x < 0 → VV X nL ad cs M tgt lv st) (kf : ¬ x < 0 → VV X nL ad cs M (pc + 3) lv st) : VV X nL ad cs M pc lv (.int x :: st) := by
  obtain ⟨p, l, e, R, s, m, args, below, meth, c, D, cy, A, kc, ks, Q⟩ := X
  intro H locs ls hP hS hl
  exact lv_if_lt hX.1 hX.2.1 d ht (fun h => kt h H locs ls hP hS hl) (fun h => kf h H locs ls hP hS hl)
theorem v_icmp_lt {x y : Int32} {off : Int} {tgt : Nat} (hX : XOK X nL ad cs cc own fr lo) (d : decode cc pc = .ok (.if_icmp .lt off, 3)) (ht : (pc : Int) + off = (tgt : Int)) (kt : x < y → VV X nL ad cs M tgt lv st) (kf : ¬ x < y → VV X nL ad cs M (pc + 3) lv st) : VV X nL ad cs M pc lv (.int y :: .int x :: st) := by
  obtain ⟨p, l, e, R, s, m, args, below, meth, c, D, cy, A, kc, ks, Q⟩ := X
  intro H locs ls hP hS hl
  exact lv_icmp_lt hX.1 hX.2.1 d ht (fun h => kt h H locs ls hP hS hl) (fun h => kf h H locs ls hP hS hl)
theorem v_if_ge {x : Int32} {off : Int} {tgt : Nat} (hX : XOK X nL ad cs cc own fr lo) (d : decode cc pc = .ok (.ifCond .ge off, 3)) (ht : (pc : Int) + off = (tgt : Int)) (kt : 0 ≤ x → VV X nL ad cs M tgt lv st) (kf : ¬ 0 ≤ x → VV X nL ad cs M (pc + 3) lv st) : VV X nL ad cs M pc lv (.int x :: st) := by
  obtain ⟨p, l, e, R, s, m, args, below, meth, c, D, cy, A, kc, ks, Q⟩ := X
  intro H locs ls hP hS hl
  exact lv_if_ge hX.1 hX.2.1 d ht (fun h => kt h H locs ls hP hS hl) (fun h => kf h H locs ls hP hS hl)
theorem v_icmp_ge {x y : Int32} {off : Int} {tgt : Nat} (hX : XOK X nL ad cs cc own fr lo) (d : decode cc pc = .ok (.if_icmp .ge off, 3)) (ht : (pc : Int) + off = (tgt : Int)) (kt : y ≤ x → VV X nL ad cs M tgt lv st) (kf : ¬ y ≤ x → VV X nL ad cs M (pc + 3) lv st) : VV X nL ad cs M pc lv (.int y :: .int x :: st) := by
  obtain ⟨p, l, e, R, s, m, args, below, meth, c, D, cy, A, kc, ks, Q⟩ := X
  intro H locs ls hP hS hl
  exact lv_icmp_ge hX.1 hX.2.1 d ht (fun h => kt h H locs ls hP hS hl) (fun h => kf h H locs ls hP hS hl)
theorem v_if_gt {x : Int32} {off : Int} {tgt : Nat} (hX : XOK X nL ad cs cc own fr lo) (d : decode cc pc = .ok (.ifCond .gt off, 3)) (ht : (pc : Int) + off = (tgt : Int)) (kt : 0 < x → VV X nL ad cs M tgt lv st) (kf : ¬ 0 < x → VV X nL ad cs M (pc + 3) lv st) : VV X nL ad cs M pc lv (.int x :: st) := by
  obtain ⟨p, l, e, R, s, m, args, below, meth, c, D, cy, A, kc, ks, Q⟩ := X
  intro H locs ls hP hS hl
  exact lv_if_gt hX.1 hX.2.1 d ht (fun h => kt h H locs ls hP hS hl) (fun h => kf h H locs ls hP hS hl)
theorem v_icmp_gt {x y : Int32} {off : Int} {tgt : Nat} (hX : XOK X nL ad cs cc own fr lo) (d : decode cc pc = .ok (.if_icmp .gt off, 3)) (ht : (pc : Int) + off = (tgt : Int)) (kt : y < x → VV X nL ad cs M tgt lv st) (kf : ¬ y < x → VV X nL ad cs M (pc + 3) lv st) : VV X nL ad cs M pc lv (.int y :: .int x :: st) := by
  obtain ⟨p, l, e, R, s, m, args, below, meth, c, D, cy, A, kc, ks, Q⟩ := X
  intro H locs ls hP hS hl
  exact lv_icmp_gt hX.1 hX.2.1 d ht (fun h => kt h H locs ls hP hS hl) (fun h => kf h H locs ls hP hS hl)
theorem v_if_le {x : Int32} {off : Int} {tgt : Nat} (hX : XOK X nL ad cs cc own fr lo) (d : decode cc pc = .ok (.ifCond .le off, 3)) (ht : (pc : Int) + off = (tgt : Int)) (kt : x ≤ 0 → VV X nL ad cs M tgt lv st) (kf : ¬ x ≤ 0 → VV X nL ad cs M (pc + 3) lv st) : VV X nL ad cs M pc lv (.int x :: st) := by
  obtain ⟨p, l, e, R, s, m, args, below, meth, c, D, cy, A, kc, ks, Q⟩ := X
  intro H locs ls hP hS hl
  exact lv_if_le hX.1 hX.2.1 d ht (fun h => kt h H locs ls hP hS hl) (fun h => kf h H locs ls hP hS hl)
theorem v_icmp_le {x y : Int32} {off : Int} {tgt : Nat} (hX : XOK X nL ad cs cc own fr lo) (d : decode cc pc = .ok (.if_icmp .le off, 3)) (ht : (pc : Int) + off = (tgt : Int)) (kt : x ≤ y → VV X nL ad cs M tgt lv st) (kf : ¬ x ≤ y → VV X nL ad cs M (pc + 3) lv st) : VV X nL ad cs M pc lv (.int y :: .int x :: st) := by
  obtain ⟨p, l, e, R, s, m, args, below, meth, c, D, cy, A, kc, ks, Q⟩ := X
  intro H locs ls hP hS hl
  exact lv_icmp_le hX.1 hX.2.1 d ht (fun h => kt h H locs ls hP hS hl) (fun h => kf h H locs ls hP hS hl)
theorem v_tableIn {dflt lo' hi : Int} {offs : Array Int} {len : Nat} {x : Int32} {off : Int} {tgt : Nat} (hX : XOK X nL ad cs cc own fr lo) (d : decode cc pc = .ok (.tableswitch dflt lo' hi offs, len)) (h1 : ¬ x.toInt < lo') (h2 : ¬ hi < x.toInt) (ho : offs[(x.toInt - lo').toNat]? = some off) (ht : (pc : Int) + off = (tgt : Int)) (k : VV X nL ad cs M tgt lv st) : VV X nL ad cs M pc lv (.int x :: st) := by
  obtain ⟨p, l, e, R, s, m, args, below, meth, c, D, cy, A, kc, ks, Q⟩ := X
  intro H locs ls hP hS hl
  exact lv_tableIn hX.1 hX.2.1 d h1 h2 ho ht (k H locs ls hP hS hl)
theorem v_tableOut {dflt lo' hi : Int} {offs : Array Int} {len : Nat} {x : Int32} {tgt : Nat} (hX : XOK X nL ad cs cc own fr lo) (d : decode cc pc = .ok (.tableswitch dflt lo' hi offs, len)) (h : x.toInt < lo' ∨ hi < x.toInt) (ht : (pc : Int) + dflt = (tgt : Int)) (k : VV X nL ad cs M tgt lv st) : VV X nL ad cs M pc lv (.int x :: st) := by
  obtain ⟨p, l, e, R, s, m, args, below, meth, c, D, cy, A, kc, ks, Q⟩ := X
  intro H locs ls hP hS hl
  exact lv_tableOut hX.1 hX.2.1 d h ht (k H locs ls hP hS hl)
theorem v_lookup {dflt : Int} {ps : Array (Int × Int)} {len : Nat} {x : Int32} {off : Int} {tgt : Nat} (hX : XOK X nL ad cs cc own fr lo) (d : decode cc pc = .ok (.lookupswitch dflt ps, len)) (hp : (ps.toList.zip (ps.toList.drop 1)).all (fun (a, next) => a.1 < next.1) = true) (ho : Op.lookupswitch.offset ps.toList dflt x.toInt = off) (ht : (pc : Int) + off = (tgt : Int)) (k : VV X nL ad cs M tgt lv st) : VV X nL ad cs M pc lv (.int x :: st) := by
  obtain ⟨p, l, e, R, s, m, args, below, meth, c, D, cy, A, kc, ks, Q⟩ := X
  intro H locs ls hP hS hl
  exact lv_lookup hX.1 hX.2.1 d hp ho ht (k H locs ls hP hS hl)
/-- a field of the class of kind ci, its k-th, by the link idx of own -/
def FL (own : String) (idx ci k : Nat) : Prop := ∃ (C : String) (T : u_T) (N : Nat), vwCl[ci]? = some (C, T, N) ∧ k < N ∧ (∀ w ∈ u_ws C T N, w ∈ tb) ∧ Cond.fieldLink own idx (T k).1 (T k).2.1 (T k).2.2.1 ∈ tb
def PL (own : String) (idx ci k : Nat) (ty : FieldType) : Prop := ∃ (C : String) (T : u_T) (N : Nat) (ty0 : Nat → FieldType), vwCl[ci]? = some (C, T, N) ∧ k < N ∧ (∀ w ∈ u_ws C T N, w ∈ tb) ∧ Cond.fieldLink own idx (T k).1 (T k).2.1 (T k).2.2.1 ∈ tb ∧ (∀ k, k < N → parseFieldDescriptor (T k).2.2.1 = some (ty0 k)) ∧ (∀ a, a < N → ∀ b, b < N → a ≠ b → (T a).2.1 ≠ (T b).2.1) ∧ (T k).2.2.2 = false ∧ parseFieldDescriptor (T k).2.2.1 = some ty
theorem v_get {c idx k ci : Nat} {fs : List Fs} {f : Fs} (hX : XOK X nL ad cs cc own fr lo) (hc : c ∈ cs) (hsh : shp c = .inl (ci, fs)) (hF : FL own idx ci k) (hf : fs[k]? = some f) (d : decode cc pc = .ok (.getfield idx, 3)) (kk : VV X nL ad cs M (pc + 3) lv (mfv ad M c k f :: st)) : VV X nL ad cs M pc lv (.ref (ad c) :: st) := by
  obtain ⟨p, l, e, R, s, m, args, below, meth, co, D, cy, A, kc, ks, Q⟩ := X
  obtain ⟨hx, hb, hml, hown, hts, hK, hD, hr⟩ := hX
  obtain ⟨C, T, N, h1, h2, h3, h4⟩ := hF
  obtain ⟨q0, hq⟩ := List.mem_iff_getElem?.mp hc
  intro H locs ls hP hS hl
  have he := wl_at (cy := cy) (ad := ad) (M := M) hq
  rw [hsh] at he
  exact va_get hx hb hts h3 hown hK.1 hP q0 he h1 k h2 (hts _ h4) (fun _ h => h) (by rw [mfs_get, hf, Nat.zero_add]; rfl) d (kk H locs ls hP hS hl)
theorem v_getI {c idx k ci : Nat} {fs : List Fs} (hX : XOK X nL ad cs cc own fr lo) (hc : c ∈ cs) (hsh : shp c = .inl (ci, fs)) (hF : FL own idx ci k) (hf : fs[k]? = some none) (d : decode cc pc = .ok (.getfield idx, 3)) (kk : VV X nL ad cs M (pc + 3) lv (.int (M.1 c k) :: st)) : VV X nL ad cs M pc lv (.ref (ad c) :: st) := v_get hX hc hsh hF hf d kk
theorem v_getL {c idx k ci : Nat} {fs : List Fs} (hX : XOK X nL ad cs cc own fr lo) (hc : c ∈ cs) (hsh : shp c = .inl (ci, fs)) (hF : FL own idx ci k) (hf : fs[k]? = some (some none)) (d : decode cc pc = .ok (.getfield idx, 3)) (kk : VV X nL ad cs M (pc + 3) lv (.long (M.2 c k) :: st)) : VV X nL ad cs M pc lv (.ref (ad c) :: st) := v_get hX hc hsh hF hf d kk
theorem v_getR {c idx k ci t : Nat} {fs : List Fs} (hX : XOK X nL ad cs cc own fr lo) (hc : c ∈ cs) (hsh : shp c = .inl (ci, fs)) (hF : FL own idx ci k) (hf : fs[k]? = some (some (some t))) (d : decode cc pc = .ok (.getfield idx, 3)) (kk : VV X nL ad cs M (pc + 3) lv (.ref (ad t) :: st)) : VV X nL ad cs M pc lv (.ref (ad c) :: st) := v_get hX hc hsh hF hf d kk
theorem v_putI_any {c idx k ci : Nat} {fs : List Fs} {x : Int32} {ty : FieldType} (hX : XOK X nL ad cs cc own fr lo) (hc : c ∈ cs) (hsh : shp c = .inl (ci, fs)) (hF : PL own idx ci k ty) (hf : fs[k]? = some none) (hn : narrow ty (.int x) = .int x) (hfit : fits ty (.int x) = true) (d : decode cc pc = .ok (.putfield idx, 3)) (e : M' = stI M c k x) (kk : VV X nL ad cs M' (pc + 3) lv st) : VV X nL ad cs M pc lv (.int x :: .ref (ad c) :: st) := by
  subst e
  obtain ⟨p, l, e, R, s, m, args, below, meth, co, D, cy, A, kc, ks, Q⟩ := X
  obtain ⟨hx, hb, hml, hown, hts, hK, hD, hr⟩ := hX
  obtain ⟨C, T, N, ty0, h1, h2, h3, h4, h5, h6, h7, h8⟩ := hF
  obtain ⟨q0, hq⟩ := List.mem_iff_getElem?.mp hc
  intro H locs ls hP hS hl
  have he := wl_at (cy := cy) (ad := ad) (M := M) hq
  rw [hsh] at he
  have hset : (wl cy ad cs M).set q0 (ad c, .inr (ci, (mfs ad M c 0 fs).set k (.int x))) = wl cy ad cs (stI M c k x) := by
    rw [mfs_setI ad M c k x fs hf, ← wl_set hD hq (fun c' h => stI_off h), hsh]; rfl
  refine va_put hx hb hts h3 ty0 h5 h6 hown hK.1 hP (wl_D hD M) hS q0 he h1 k h2 (hts _ h4) (fun _ h => h) h7 h8 hn hfit (by rw [mfs_len]; exact (List.getElem?_eq_some_iff.mp hf).1) d (fun H1 locs1 hP1 hD1 hS1 => ?_)
  rw [hset] at hP1
  exact kk H1 locs1 ls hP1 hS1 hl
theorem v_putI {c idx k ci : Nat} {fs : List Fs} {x : Int32} (hX : XOK X nL ad cs cc own fr lo) (hc : c ∈ cs) (hsh : shp c = .inl (ci, fs)) (hF : PL own idx ci k .int) (hf : fs[k]? = some none) (d : decode cc pc = .ok (.putfield idx, 3)) (e : M' = stI M c k x) (kk : VV X nL ad cs M' (pc + 3) lv st) : VV X nL ad cs M pc lv (.int x :: .ref (ad c) :: st) := v_putI_any hX hc hsh hF hf rfl rfl d e kk
theorem nb_of {x : Int32} (h : x = 0 ∨ x = 1) : narrow .boolean (.int x) = .int x := by rcases h with rfl | rfl <;> rfl
theorem fb_of {x : Int32} (h : x = 0 ∨ x = 1) : fits .boolean (.int x) = true := by rcases h with rfl | rfl <;> rfl
theorem v_putZ {c idx k ci : Nat} {fs : List Fs} {x : Int32} (hX : XOK X nL ad cs cc own fr lo) (hc : c ∈ cs) (hsh : shp c = .inl (ci, fs)) (hF : PL own idx ci k .boolean) (hf : fs[k]? = some none) (hz : x = 0 ∨ x = 1) (d : decode cc pc = .ok (.putfield idx, 3)) (e : M' = stI M c k x) (kk : VV X nL ad cs M' (pc + 3) lv st) : VV X nL ad cs M pc lv (.int x :: .ref (ad c) :: st) := v_putI_any hX hc hsh hF hf (nb_of hz) (fb_of hz) d e kk
theorem v_putL {c idx k ci : Nat} {fs : List Fs} {x : Int64} (hX : XOK X nL ad cs cc own fr lo) (hc : c ∈ cs) (hsh : shp c = .inl (ci, fs)) (hF : PL own idx ci k .long) (hf : fs[k]? = some (some none)) (d : decode cc pc = .ok (.putfield idx, 3)) (e : M' = stL M c k x) (kk : VV X nL ad cs M' (pc + 3) lv st) : VV X nL ad cs M pc lv (.long x :: .ref (ad c) :: st) := by
  subst e
  obtain ⟨p, l, e, R, s, m, args, below, meth, co, D, cy, A, kc, ks, Q⟩ := X
  obtain ⟨hx, hb, hml, hown, hts, hK, hD, hr⟩ := hX
  obtain ⟨C, T, N, ty0, h1, h2, h3, h4, h5, h6, h7, h8⟩ := hF
  obtain ⟨q0, hq⟩ := List.mem_iff_getElem?.mp hc
  intro H locs ls hP hS hl
  have he := wl_at (cy := cy) (ad := ad) (M := M) hq
  rw [hsh] at he
  have hset : (wl cy ad cs M).set q0 (ad c, .inr (ci, (mfs ad M c 0 fs).set k (.long x))) = wl cy ad cs (stL M c k x) := by
    rw [mfs_setL ad M c k x fs hf, ← wl_set hD hq (fun c' h => stL_off h), hsh]; rfl
  refine va_put hx hb hts h3 ty0 h5 h6 hown hK.1 hP (wl_D hD M) hS q0 he h1 k h2 (hts _ h4) (fun _ h => h) h7 h8 rfl rfl (by rw [mfs_len]; exact (List.getElem?_eq_some_iff.mp hf).1) d (fun H1 locs1 hP1 hD1 hS1 => ?_)
  rw [hset] at hP1
  exact kk H1 locs1 ls hP1 hS1 hl
abbrev inb (i : Int32) (n : Nat) : Prop := 0 ≤ i.toInt ∧ i.toInt < n
theorem v_iald {c n j : Nat} {i : Int32} (hX : XOK X nL ad cs cc own fr lo) (hc : c ∈ cs) (hsh : shp c = .inr (0, n)) (hi : inb i n) (hj : ix i = j) (d : decode cc pc = .ok (.iaload, 1)) (kk : VV X nL ad cs M (pc + 1) lv (.int (M.1 c j) :: st)) : VV X nL ad cs M pc lv (.int i :: .ref (ad c) :: st) := by
  subst hj
  obtain ⟨p, l, e, R, s, m, args, below, meth, co, D, cy, A, kc, ks, Q⟩ := X
  obtain ⟨hx, hb, hml, hown, hts, hK, hD, hr⟩ := hX
  obtain ⟨q0, hq⟩ := List.mem_iff_getElem?.mp hc
  intro H locs ls hP hS hl
  have he := wl_at (cy := cy) (ad := ad) (M := M) hq
  rw [hsh] at he
  exact va_iald hx hb hK.1 hP q0 0 he rfl (vp_in_iff.mpr hi) d (kk H locs ls hP hS hl)
theorem v_lald {c n j : Nat} {i : Int32} (hX : XOK X nL ad cs cc own fr lo) (hc : c ∈ cs) (hsh : shp c = .inr (1, n)) (hi : inb i n) (hj : ix i = j) (d : decode cc pc = .ok (.laload, 1)) (kk : VV X nL ad cs M (pc + 1) lv (.long (M.2 c j) :: st)) : VV X nL ad cs M pc lv (.int i :: .ref (ad c) :: st) := by
  subst hj
  obtain ⟨p, l, e, R, s, m, args, below, meth, co, D, cy, A, kc, ks, Q⟩ := X
  obtain ⟨hx, hb, hml, hown, hts, hK, hD, hr⟩ := hX
  obtain ⟨q0, hq⟩ := List.mem_iff_getElem?.mp hc
  intro H locs ls hP hS hl
  have he := wl_at (cy := cy) (ad := ad) (M := M) hq
  rw [hsh] at he
  exact va_lald hx hb hK.1 hP q0 1 he rfl (vp_in_iff.mpr hi) d (kk H locs ls hP hS hl)
theorem v_iast {c n j : Nat} {i x : Int32} (hX : XOK X nL ad cs cc own fr lo) (hc : c ∈ cs) (hsh : shp c = .inr (0, n)) (hi : inb i n) (hj : ix i = j) (d : decode cc pc = .ok (.iastore, 1)) (e : M' = stI M c j x) (kk : VV X nL ad cs M' (pc + 1) lv st) : VV X nL ad cs M pc lv (.int x :: .int i :: .ref (ad c) :: st) := by
  subst hj; subst e
  obtain ⟨p, l, e, R, s, m, args, below, meth, co, D, cy, A, kc, ks, Q⟩ := X
  obtain ⟨hx, hb, hml, hown, hts, hK, hD, hr⟩ := hX
  obtain ⟨q0, hq⟩ := List.mem_iff_getElem?.mp hc
  intro H locs ls hP hS hl
  have he := wl_at (cy := cy) (ad := ad) (M := M) hq
  rw [hsh] at he
  have hset : (wl cy ad cs M).set q0 (ad c, .inl (cy.1, n, .inl (upd (M.1 c) (ix i) x))) = wl cy ad cs (stI M c (ix i) x) := by
    rw [← stI_at, ← wl_set hD hq (fun c' h => stI_off h), hsh]; rfl
  refine va_iast hx hb hK.1 hP (wl_D hD M) hS q0 0 he rfl (vp_in_iff.mpr hi) d (fun H1 locs1 hP1 hD1 hS1 => ?_)
  rw [show i.toNatClampNeg = ix i from rfl, hset] at hP1
  exact kk H1 locs1 ls hP1 hS1 hl
theorem v_last {c n j : Nat} {i : Int32} {x : Int64} (hX : XOK X nL ad cs cc own fr lo) (hc : c ∈ cs) (hsh : shp c = .inr (1, n)) (hi : inb i n) (hj : ix i = j) (d : decode cc pc = .ok (.lastore, 1)) (e : M' = stL M c j x) (kk : VV X nL ad cs M' (pc + 1) lv st) : VV X nL ad cs M pc lv (.long x :: .int i :: .ref (ad c) :: st) := by
  subst hj; subst e
  obtain ⟨p, l, e, R, s, m, args, below, meth, co, D, cy, A, kc, ks, Q⟩ := X
  obtain ⟨hx, hb, hml, hown, hts, hK, hD, hr⟩ := hX
  obtain ⟨q0, hq⟩ := List.mem_iff_getElem?.mp hc
  intro H locs ls hP hS hl
  have he := wl_at (cy := cy) (ad := ad) (M := M) hq
  rw [hsh] at he
  have hset : (wl cy ad cs M).set q0 (ad c, .inl (cy.2.1, n, .inr (.inl (vp_updL (M.2 c) (ix i) x)))) = wl cy ad cs (stL M c (ix i) x) := by
    rw [← stL_at, ← wl_set hD hq (fun c' h => stL_off h), hsh]; rfl
  refine va_last hx hb hK.1 hP (wl_D hD M) hS q0 1 he rfl (vp_in_iff.mpr hi) d (fun H1 locs1 hP1 hD1 hS1 => ?_)
  rw [show i.toNatClampNeg = ix i from rfl, hset] at hP1
  exact kk H1 locs1 ls hP1 hS1 hl
theorem v_copy {s0 d0 n0 n1 idx js jd jn : Nat} {sp dp n : Int32} (hX : XOK X nL ad cs cc own fr lo) (hw : Cond.methodLink own idx arraycopyName ∈ tb ∧ Cond.native arraycopyName ∈ tb ∧ Cond.static arraycopyName ∈ tb ∧ Cond.initialized "java/lang/System" ∈ tb) (hs : s0 ∈ cs) (hd : d0 ∈ cs) (hshs : shp s0 = .inr (0, n0)) (hshd : shp d0 = .inr (0, n1)) (h1 : ¬ sp < 0) (h2 : ¬ dp < 0) (h3 : ¬ n < 0) (ejs : ix sp = js) (ejd : ix dp = jd) (ejn : ix n = jn) (h4 : js + jn ≤ n0) (h5 : jd + jn ≤ n1) (hfr : 1 ≤ fr) (hlo : (st.map fun v => v.category).sum + (nativeFrameWords "java/lang/System" "arraycopy" 5 + 11) ≤ lo) (d : decode cc pc = .ok (.invokestatic idx, 3)) (e : M' = cpI M s0 js d0 jd jn) (kk : VV X nL ad cs M' (pc + 3) lv st) : VV X nL ad cs M pc lv (.int n :: .int dp :: .ref (ad d0) :: .int sp :: .ref (ad s0) :: st) := by
  subst ejs; subst ejd; subst ejn; subst e
  obtain ⟨p, l, e, R, s, m, args, below, meth, co, D, cy, A, kc, ks, Q⟩ := X
  obtain ⟨hx, hb, hml, hown, hts, hK, hD, hr⟩ := hX
  obtain ⟨q0, hq⟩ := List.mem_iff_getElem?.mp hs
  obtain ⟨q1, hq1⟩ := List.mem_iff_getElem?.mp hd
  intro H locs ls hP hS hl
  have he := wl_at (cy := cy) (ad := ad) (M := M) hq
  have he1 := wl_at (cy := cy) (ad := ad) (M := M) hq1
  rw [hshs] at he
  rw [hshd] at he1
  have hset : (wl cy ad cs M).set q1 (ad d0, .inl (cy.1, n1, .inl (va_cpy (M.1 s0) (M.1 d0) (ix sp) (ix dp) (ix n)))) = wl cy ad cs (cpI M s0 (ix sp) d0 (ix dp) (ix n)) := by
    rw [← cpI_at, ← wl_set hD hq1 (fun c' h => cpI_off h), hshd]; rfl
  refine va_copyi hx hb (hml.trans hl.1.symm) hown (hts _ hw.1) (hts _ hw.2.1) (hts _ hw.2.2.1) (hts _ hw.2.2.2) hK.1 hP (wl_D hD M) hS q0 q1 0 0 he he1 rfl rfl rfl h1 h2 h3 h4 h5 (fun _ _ => rfl) (Nat.le_trans hfr hr.1) (Nat.le_trans hlo hr.2.1) d (fun H1 locs1 hP1 hD1 hS1 => ?_)
  have hP1 : va_P D vwCl ((wl cy ad cs M).set q1 (ad d0, .inl (cy.1, n1, .inl (va_cpy (M.1 s0) (M.1 d0) (ix sp) (ix dp) (ix n))))) H1 := hP1
  rw [hset] at hP1
  exact kk H1 locs1 ls hP1 hS1 hl
theorem v_min {x y : Int32} {idx : Nat} (hX : XOK X nL ad cs cc own fr lo) (hw : Cond.methodLink own idx Lib.Math.min.name ∈ tb ∧ Cond.static Lib.Math.min.name ∈ tb ∧ Cond.initialized "java/lang/Math" ∈ tb ∧ Cond.code Lib.Math.min.name Lib.Math.min.code 2 (some .int) ∈ tb) (hfr : 1 ≤ fr) (hlo : (st.map fun v => v.category).sum + 13 ≤ lo) (d : decode cc pc = .ok (.invokestatic idx, 3)) (kk : VV X nL ad cs M (pc + 3) lv (.int (if y < x then y else x) :: st)) : VV X nL ad cs M pc lv (.int y :: .int x :: st) := by
  obtain ⟨p, l, e, R, s, m, args, below, meth, co, D, cy, A, kc, ks, Q⟩ := X
  obtain ⟨hx, hb, hml, hown, hts, hK, hD, hr⟩ := hX
  intro H locs ls hP hS hl
  exact va_mmin hx hb (hml.trans hl.1.symm) hown (hts _ hw.1) (hts _ hw.2.1) (hts _ hw.2.2.1) (hts _ hw.2.2.2) (Nat.le_trans hfr hr.1) (Nat.le_trans hlo hr.2.1) hr.2.2.1 hr.2.2.2 d (kk H locs ls hP hS hl)
theorem v_max {x y : Int32} {idx : Nat} (hX : XOK X nL ad cs cc own fr lo) (hw : Cond.methodLink own idx Lib.Math.max.name ∈ tb ∧ Cond.static Lib.Math.max.name ∈ tb ∧ Cond.initialized "java/lang/Math" ∈ tb ∧ Cond.code Lib.Math.max.name Lib.Math.max.code 2 (some .int) ∈ tb) (hfr : 1 ≤ fr) (hlo : (st.map fun v => v.category).sum + 13 ≤ lo) (d : decode cc pc = .ok (.invokestatic idx, 3)) (kk : VV X nL ad cs M (pc + 3) lv (.int (if x < y then y else x) :: st)) : VV X nL ad cs M pc lv (.int y :: .int x :: st) := by
  obtain ⟨p, l, e, R, s, m, args, below, meth, co, D, cy, A, kc, ks, Q⟩ := X
  obtain ⟨hx, hb, hml, hown, hts, hK, hD, hr⟩ := hX
  intro H locs ls hP hS hl
  exact va_mmax hx hb (hml.trans hl.1.symm) hown (hts _ hw.1) (hts _ hw.2.1) (hts _ hw.2.2.1) (hts _ hw.2.2.2) (Nat.le_trans hfr hr.1) (Nat.le_trans hlo hr.2.1) hr.2.2.1 hr.2.2.2 d (kk H locs ls hP hS hl)
theorem v_iret_any {a : Int32} {ty : FieldType} (hX : XOK X nL ad cs cc own fr lo) (hR : XR X ad cs (some ty) (some (.int a)) M) (hn : narrow ty (.int a) = .int a) (d : decode cc pc = .ok (.ireturn, 1)) : VV X nL ad cs M pc lv [.int a] := by
  obtain ⟨p, l, e, R, s, m, args, below, meth, co, D, cy, A, kc, ks, Q⟩ := X
  obtain ⟨rfl, hr, hlk⟩ := hR
  intro H locs ls hP hS hl
  exact W.zret hX.1 hX.2.1 hr hn (fun t ht _ => ⟨⟨rfl, by rw [ht]; exact hP⟩, hS.F ht⟩) hS.2.2 d hlk
theorem v_iret {a : Int32} (hX : XOK X nL ad cs cc own fr lo) (hR : XR X ad cs (some .int) (some (.int a)) M) (d : decode cc pc = .ok (.ireturn, 1)) : VV X nL ad cs M pc lv [.int a] := v_iret_any hX hR rfl d
theorem v_zret {a : Int32} (hX : XOK X nL ad cs cc own fr lo) (hR : XR X ad cs (some .boolean) (some (.int a)) M) (hz : a = 0 ∨ a = 1) (d : decode cc pc = .ok (.ireturn, 1)) : VV X nL ad cs M pc lv [.int a] := v_iret_any hX hR (nb_of hz) d
theorem v_lret {a : Int64} (hX : XOK X nL ad cs cc own fr lo) (hR : XR X ad cs (some .long) (some (.long a)) M) (d : decode cc pc = .ok (.lreturn, 1)) : VV X nL ad cs M pc lv [.long a] := by
  obtain ⟨p, l, e, R, s, m, args, below, meth, co, D, cy, A, kc, ks, Q⟩ := X
  obtain ⟨rfl, hr, hlk⟩ := hR
  intro H locs ls hP hS hl
  exact W.lret hX.1 hX.2.1 hr (fun t ht _ => ⟨⟨rfl, by rw [ht]; exact hP⟩, hS.F ht⟩) hS.2.2 d hlk
theorem v_vret (hX : XOK X nL ad cs cc own fr lo) (hR : XR X ad cs none none M) (d : decode cc pc = .ok (.return_, 1)) : VV X nL ad cs M pc lv [] := by
  obtain ⟨p, l, e, R, s, m, args, below, meth, co, D, cy, A, kc, ks, Q⟩ := X
  obtain ⟨rfl, hr, hlk⟩ := hR
  intro H locs ls hP hS hl
  exact W.vret hX.1 hX.2.1 hr (fun t ht _ => ⟨⟨rfl, by rw [ht]; exact hP⟩, hS.F ht⟩) hS.2.2 d hlk
end VR
