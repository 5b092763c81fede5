/-! ===== rows that make cells ===== -/
abbrev MM0 : Mm := (fun _ _ => 0, fun _ _ => 0)
/-- the machine at pc, over any world; kc cells and ks slots are made -/
def NN (X : XT) (nL : Nat) (w : va_W) (kc ks : Nat) (pc : Nat) (lv : List (Nat × Value)) (st : List Value) : Prop := match X with
  | (p, l, e, R, s, m, args, below, meth, c, D, _, A, _, _, Q) => ∀ (H : Heap) (locs : List Loc) (ls : Array Slot), va_P D vwCl w H → va_D A w → va_S A s.heap H locs → lv_has ls nL lv → W p l e R s m args below meth c H locs kc ks Q (F0 m pc ls st)
def NOK (X : XT) (cy : ClassId × ClassId × ClassId) (nL : Nat) (cc : ByteArray) (own : String) (fr lo mc ms : Nat) : Prop := match X with
  | (p, _, _, R, s, m, args, _, _, c, D, cy0, A, _, _, _) => p.tables.exec = Jvm.exec ∧ c.code = cc ∧ c.maxLocals = nL ∧ s.vm.findClass own = some m.cls ∧ (∀ w ∈ tb, w.before args s = true) ∧ KK D cy s ∧ cy0 = cy ∧ (∀ q, s.heap.size ≤ q → A q) ∧ fr ≤ R.frames ∧ lo ≤ R.locals ∧ mc ≤ R.cells ∧ ms ≤ R.slots
def NIN (X : XT) : Prop := match X with
  | (_, _, _, _, _, _, _, _, meth, _, _, _, _, _, _, _) => meth.name = "<init>"
/-- what a constructor does: its object, at the address of the cell c0, and the cells cs below it -/
def NQ (D : va_G) (cy : ClassId × ClassId × ClassId) (c0 : Nat) (cs : List Nat) (M : Mm) (h0 : Nat) (A : Nat → Prop) : Array Value → State → Outcome → State → Prop := va_Qv (S := Nat → Nat) (fun ad => ad c0 = h0) (fun ad t => va_P D vwCl (wl cy ad cs M) t.heap ∧ va_D A (wl cy ad cs M)) A
def CI (c0 : Nat) (cs : List Nat) (y : MethodName) (cc : ByteArray) (maxL : Nat) (fr lo mc ms ci : Nat) (fs0 : List Value) (M : Mm) : Prop :=
  ∀ (l : Launch) (D : va_G) (cy : ClassId × ClassId × ClassId) (h0 sz : Nat), Met l y (.code y cc maxL none :: tb) ({ frames := fr, cells := mc, slots := ms, locals := lo } : Room) (va_Pc [.ref h0] (fun U => U.heap.size = sz ∧ va_P D vwCl [(h0, .inr (ci, fs0))] U.heap ∧ KK D cy U)) (NQ D cy c0 cs M h0 (va_A [(h0, .inr (ci, fs0))] sz)) mc ms (va_A [(h0, .inr (ci, fs0))] sz)
def NR (X : XT) (cy : ClassId × ClassId × ClassId) (c0 : Nat) (cs : List Nat) (M : Mm) (h0 mc ms : Nat) : Prop := match X with
  | (_, _, _, _, s, _, args, below, meth, _, D, _, A, _, _, Q) => Q = MQ below (NQ D cy c0 cs M h0 A) args s mc ms A ∧ meth.sig.returnType = none ∧ meth.locks = false
theorem va_D_pre {A : Nat → Prop} {a b : va_W} (h : va_D A (a ++ b)) : va_D A a := by
  have k1 : ∀ (i : Nat) (q : Nat × va_E), a[i]? = some q → (a ++ b)[i]? = some q := fun i q hq => by
    rw [List.getElem?_append_left (List.getElem?_eq_some_iff.mp hq).1]; exact hq
  exact ⟨fun i j p q hi hj e => h.1 i j p q (k1 i p hi) (k1 j q hj) e, fun k q hk => h.2 k q (k1 k q hk)⟩
theorem CI.of {c0 : Nat} {cs : List Nat} {y : MethodName} {cc : ByteArray} {maxL : Nat} {fr lo mc ms ci : Nat} {fs0 : List Value} {M : Mm} (own : String) (hy : plainName y.cls = true) (ho : y.cls = own) (hy1 : y.name = "<init>") (hlen : 1 ≤ maxL)
    (body : ∀ (X : XT) (cy : ClassId × ClassId × ClassId) (h0 : Nat), NOK X cy maxL cc own fr lo mc ms → NIN X → NR X cy c0 cs M h0 mc ms → NN X maxL [(h0, .inr (ci, fs0))] 0 0 0 [(0, .ref h0)] []) : CI c0 cs y cc maxL fr lo mc ms ci fs0 M := by
  intro l D cy h0 sz
  refine Met.ofW (cc := cc) (maxL := maxL) (ret := none) hy rfl ?_
  intro p e s m args below meth c s₁ B hml hv
  obtain ⟨rfl, hsz, hP, hK⟩ := hv
  subst hsz
  have hts := atoms_spec (ws := .code y cc maxL none :: tb) B.pre
  have hown : s.vm.findClass own = some m.cls := by rw [← ho]; exact findClass_of_methodNamed B.named
  have hin : meth.name = "<init>" := by rw [← hy1]; exact (name_of_methodNamed B.named B.method).1
  have hX := body (p, l, e, ({ frames := fr, cells := mc, slots := ms, locals := lo } : Room), s, m, [Value.ref h0].toArray, below, meth, c, D, cy, va_A [(h0, .inr (ci, fs0))] s.heap.size, 0, 0, _) cy h0 ⟨B.exec, B.bytes, hml, hown, fun w h => hts w (List.mem_cons_of_mem _ h), hK, rfl, fun q h => Or.inr h, Nat.le_refl _, Nat.le_refl _, Nat.le_refl _, Nat.le_refl _⟩ hin ⟨rfl, B.returns, B.notSynchronized⟩
  have hl := lv_entry [Value.ref h0] (n := maxL) hlen
  rw [lg_entry_eq]
  refine hX s.heap [] _ hP ?_ va_S.rf hl
  refine ⟨fun i j p q hi hj e => ?_, fun k q hk => va_A.in hk⟩
  have h1 : i < 1 := (List.getElem?_eq_some_iff.mp hi).1
  have h2 : j < 1 := (List.getElem?_eq_some_iff.mp hj).1
  omega
section VN
variable {X : XT} {cy : ClassId × ClassId × ClassId} {nL : Nat} {cc : ByteArray} {own : String} {fr lo mc ms : Nat} {w : va_W} {kc ks pc : Nat} {lv lv' : List (Nat × Value)} {st : List Value}
theorem n_aload_n {f : Fin 4} {x : Nat} (j : Nat) (hX : NOK X cy nL cc own fr lo mc ms) (d : decode cc pc = .ok (.aload_n f, 1)) (hj : lv[j]? = some ((f : Nat), .ref x)) (k : NN X nL w kc ks (pc + 1) lv (.ref x :: st)) : NN X nL w kc ks pc lv st := by
  obtain ⟨p, l, e, R, s, m, args, below, meth, c, D, cy0, A, kc0, ks0, Q⟩ := X
  intro H locs ls hP hD hS hl
  exact lv_aload_n hX.1 hX.2.1 d rfl (lv_at hl j hj) (k H locs ls hP hD hS hl)
theorem n_astore_n {f : Fin 4} {x : Nat} (lv' : List (Nat × Value)) (hX : NOK X cy nL cc own fr lo mc ms) (d : decode cc pc = .ok (.astore_n f, 1)) (hn : (f : Nat) < nL) (hl' : ((f : Nat), Value.ref x) :: lv.filter (fun q => !(q.1 == (f : Nat)) && !(q.1 + 1 == (f : Nat) && q.2.category == 2)) = lv') (k : NN X nL w kc ks (pc + 1) lv' st) : NN X nL w kc ks pc lv (.ref x :: st) := by
  obtain ⟨p, l, e, R, s, m, args, below, meth, c, D, cy0, A, kc0, ks0, Q⟩ := X
  intro H locs ls hP hD hS hl
  exact lv_astore_n (lv' := lv') hX.1 hX.2.1 d rfl hl hn hl' (fun ls hl => k H locs ls hP hD hS hl)
theorem n_iconst {n : Int} {v : Int32} (hX : NOK X cy nL cc own fr lo mc ms) (d : decode cc pc = .ok (.iconst n, 1)) (hv : Int32.ofInt n = v) (k : NN X nL w kc ks (pc + 1) lv (.int v :: st)) : NN X nL w kc ks pc lv st := by
  obtain ⟨p, l, e, R, s, m, args, below, meth, c, D, cy0, A, kc0, ks0, Q⟩ := X
  intro H locs ls hP hD hS hl
  exact lv_iconst hX.1 hX.2.1 d hv (k H locs ls hP hD hS hl)
theorem n_bipush {n : Int} {v : Int32} (hX : NOK X cy nL cc own fr lo mc ms) (d : decode cc pc = .ok (.bipush n, 2)) (hv : (Int8.ofInt n).toInt32 = v) (k : NN X nL w kc ks (pc + 2) lv (.int v :: st)) : NN X nL w kc ks pc lv st := by
  obtain ⟨p, l, e, R, s, m, args, below, meth, c, D, cy0, A, kc0, ks0, Q⟩ := X
  intro H locs ls hP hD hS hl
  exact lv_bipush hX.1 hX.2.1 d hv (k H locs ls hP hD hS hl)
theorem n_sipush {n : Int} {v : Int32} (hX : NOK X cy nL cc own fr lo mc ms) (d : decode cc pc = .ok (.sipush n, 3)) (hv : (Int16.ofInt n).toInt32 = v) (k : NN X nL w kc ks (pc + 3) lv (.int v :: st)) : NN X nL w kc ks pc lv st := by
  obtain ⟨p, l, e, R, s, m, args, below, meth, c, D, cy0, A, kc0, ks0, Q⟩ := X
  intro H locs ls hP hD hS hl
  exact lv_sipush hX.1 hX.2.1 d hv (k H locs ls hP hD hS hl)
theorem n_dup {va : Value} (hX : NOK X cy nL cc own fr lo mc ms) (d : decode cc pc = .ok (.dup, 1)) (h : va.category = 1) (k : NN X nL w kc ks (pc + 1) lv (va :: va :: st)) : NN X nL w kc ks pc lv (va :: st) := by
  obtain ⟨p, l, e, R, s, m, args, below, meth, c, D, cy0, A, kc0, ks0, Q⟩ := X
  intro H locs ls hP hD hS hl
  exact lv_dup hX.1 hX.2.1 d h (k H locs ls hP hD hS hl)
theorem n_obj {idx x : Nat} (hX : NOK X cy nL cc own fr lo mc ms) (hw : Cond.methodLink own idx Lib.objectInit ∈ tb ∧ Cond.instanceMethod Lib.objectInit ∈ tb ∧ Cond.code Lib.objectInit ⟨#[0xb1]⟩ 1 none ∈ tb) (hfr : 1 ≤ fr) (hlo : (st.map fun v => v.category).sum + 12 ≤ lo) (d : decode cc pc = .ok (.invokespecial idx, 3)) (k : NN X nL w kc ks (pc + 3) lv st) : NN X nL w kc ks pc lv (.ref x :: st) := by
  obtain ⟨p, l, e, R, s, m, args, below, meth, c, D, cy0, A, kc0, ks0, Q⟩ := X
  obtain ⟨hx, hb, hml, hown, hts, hK, -, hA, hr⟩ := hX
  intro H locs ls hP hD hS hl
  refine W.objInit hx hb hown (hts _ hw.1) (hts _ hw.2.1) (hts _ hw.2.2) rfl (by rw [hml]; exact hl.1) rfl d (Nat.le_trans hfr hr.1) ?_ (W.eq (g2 := F0 m (pc + 3) ls st) rfl (k H locs ls hP hD hS hl))
  have h1 := Nat.le_trans hlo hr.2.1
  show 2 * 0 + _ + 12 ≤ _
  omega
theorem n_newI {n : Int32} {N : Nat} (hX : NOK X cy nL cc own fr lo mc ms) (hw : Cond.arrayClass .int ∈ tb) (hn : ¬ n < 0) (hN : n.toNatClampNeg = N) (hb0 : N ≤ 100000) (hc : kc + 1 ≤ mc ∧ ks + N ≤ ms) (d : decode cc pc = .ok (.newarray .int, 2)) (k : ∀ q, NN X nL (w ++ [(q, .inl (cy.1, N, .inl (fun _ => 0)))]) (kc + 1) (ks + N) (pc + 2) lv (.ref q :: st)) : NN X nL w kc ks pc lv (.int n :: st) := by
  obtain ⟨p, l, e, R, s, m, args, below, meth, c, D, cy0, A, kc0, ks0, Q⟩ := X
  obtain ⟨hx, hb, hml, hown, hts, hK, -, hA, hr⟩ := hX
  intro H locs ls hP hD hS hl
  refine va_newa (atype := .int) (ty := .int) (a0 := (N, .inl (fun _ => 0))) hx hb (hts _ hw) rfl hK.1 hP hD hS hA (fun _ => rfl) hn hN (by show N * 4 ≤ 536870912; omega) (Nat.le_trans hc.1 hr.2.2.1) (Nat.le_trans hc.2 hr.2.2.2) d (fun q cA H1 hK1 hP1 hD1 hS1 => ?_)
  have e1 : s.vm.findClass ("[" ++ FieldType.int.toString) = some cA := (hK1.2 2 (cA, .int) rfl).2
  have e2 : s.vm.findClass ("[" ++ FieldType.int.toString) = some cy.1 := (hK.1.2 0 (cy.1, .int) rfl).2
  obtain rfl := Option.some.inj (e2.symm.trans e1)
  exact k q H1 locs ls hP1 hD1 hS1 hl
theorem n_newL {n : Int32} {N : Nat} (hX : NOK X cy nL cc own fr lo mc ms) (hw : Cond.arrayClass .long ∈ tb) (hn : ¬ n < 0) (hN : n.toNatClampNeg = N) (hb0 : N ≤ 100000) (hc : kc + 1 ≤ mc ∧ ks + N ≤ ms) (d : decode cc pc = .ok (.newarray .long, 2)) (k : ∀ q, NN X nL (w ++ [(q, .inl (cy.2.1, N, .inr (.inl (fun _ => 0))))]) (kc + 1) (ks + N) (pc + 2) lv (.ref q :: st)) : NN X nL w kc ks pc lv (.int n :: st) := by
  obtain ⟨p, l, e, R, s, m, args, below, meth, c, D, cy0, A, kc0, ks0, Q⟩ := X
  obtain ⟨hx, hb, hml, hown, hts, hK, -, hA, hr⟩ := hX
  intro H locs ls hP hD hS hl
  refine va_newa (atype := .long) (ty := .long) (a0 := (N, .inr (.inl (fun _ => 0)))) hx hb (hts _ hw) rfl hK.1 hP hD hS hA (fun _ => rfl) hn hN (by show N * 8 ≤ 536870912; omega) (Nat.le_trans hc.1 hr.2.2.1) (Nat.le_trans hc.2 hr.2.2.2) d (fun q cA H1 hK1 hP1 hD1 hS1 => ?_)
  have e1 : s.vm.findClass ("[" ++ FieldType.long.toString) = some cA := (hK1.2 2 (cA, .long) rfl).2
  have e2 : s.vm.findClass ("[" ++ FieldType.long.toString) = some cy.2.1 := (hK.1.2 1 (cy.2.1, .long) rfl).2
  obtain rfl := Option.some.inj (e2.symm.trans e1)
  exact k q H1 locs ls hP1 hD1 hS1 hl
/-- what a new object wants of the tables -/
def CW (own : String) (idx ci N : Nat) (fs : List Value) : Prop := ∃ (C : String) (T : u_T) (ty : Nat → FieldType), vwCl[ci]? = some (C, T, N) ∧ Cond.classLink own idx C ∈ tb ∧ Cond.instantiable C N ∈ tb ∧ Cond.initialized C ∈ tb ∧ (∀ w ∈ u_ws C T N, w ∈ tb) ∧ (∀ k, k < N → parseFieldDescriptor (T k).2.2.1 = some (ty k)) ∧ ∀ j, j < N → defaultValue (ty j) = vp_V fs j
theorem n_new {idx ci N : Nat} {fs : List Value} (hX : NOK X cy nL cc own fr lo mc ms) (hw : CW own idx ci N fs) (hc : kc + 1 ≤ mc ∧ ks + N ≤ ms) (d : decode cc pc = .ok (.new idx, 3)) (k : ∀ q, NN X nL (w ++ [(q, .inr (ci, fs))]) (kc + 1) (ks + N) (pc + 3) lv (.ref q :: st)) : NN X nL w kc ks pc lv st := by
  obtain ⟨p, l, e, R, s, m, args, below, meth, c, D, cy0, A, kc0, ks0, Q⟩ := X
  obtain ⟨hx, hb, hml, hown, hts, hK, -, hA, hr⟩ := hX
  obtain ⟨C, T, ty, h1, h2, h3, h4, h5, h6, h7⟩ := hw
  intro H locs ls hP hD hS hl
  exact va_new hx hb hts h5 ty h6 hown (hts _ h2) (hts _ h3) (hts _ h4) hK.1 hP hD hS hA h1 h7 (Nat.le_trans hc.1 hr.2.2.1) (Nat.le_trans hc.2 hr.2.2.2) d (fun q H1 hP1 hD1 hS1 => k q H1 locs ls hP1 hD1 hS1 hl)
/-- what a final field of references wants of the tables -/
def FF (own : String) (idx ci k : Nat) : Prop := ∃ (C : String) (T : u_T) (N : Nat) (ty0 : Nat → FieldType) (ty : FieldType), vwCl[ci]? = some (C, T, N) ∧ k < N ∧ (∀ w ∈ u_ws C T N, w ∈ tb) ∧ Cond.fieldLink own idx (T k).1 (T k).2.1 (T k).2.2.1 ∈ tb ∧ (∀ k, k < N → parseFieldDescriptor (T k).2.2.1 = some (ty0 k)) ∧ (∀ a, a < N → ∀ b, b < N → a ≠ b → (T a).2.1 ≠ (T b).2.1) ∧ (T k).2.2.2 = true ∧ (T k).1 = own ∧ parseFieldDescriptor (T k).2.2.1 = some ty ∧ (∀ x, narrow ty (.ref x) = .ref x) ∧ ∀ x, fits ty (.ref x) = true
theorem n_putF {idx ci k h0 x : Nat} {fs : List Value} (hX : NOK X cy nL cc own fr lo mc ms) (hN : NIN X) (hw : FF own idx ci k) (hl : k < fs.length) (d : decode cc pc = .ok (.putfield idx, 3)) (kk : NN X nL ((h0, .inr (ci, fs.set k (.ref x))) :: w) kc ks (pc + 3) lv st) : NN X nL ((h0, .inr (ci, fs)) :: w) kc ks pc lv (.ref x :: .ref h0 :: st) := by
  obtain ⟨p, l, e, R, s, m, args, below, meth, c, D, cy0, A, kc0, ks0, Q⟩ := X
  obtain ⟨hx, hb, hml, hown, hts, hK, -, hA, hr⟩ := hX
  obtain ⟨C, T, N, ty0, ty, h1, h2, h3, h4, h5, h6, h7, h8, h9, h10, h11⟩ := hw
  intro H locs ls hP hD hS hls
  exact va_putF hx hb hts h3 ty0 h5 h6 hown hK.1 hP hD hS 0 rfl h1 k h2 (hts _ h4) (fun _ h => h) h7 hN h8 h9 (h10 x) (h11 x) hl d (fun H1 locs1 hP1 hD1 hS1 => kk H1 locs1 ls hP1 hD1 hS1 hls)
theorem n_putI {idx ci k h0 : Nat} {x : Int32} {ty : FieldType} {fs : List Value} (hX : NOK X cy nL cc own fr lo mc ms) (hF : PL own idx ci k ty) (hn : narrow ty (.int x) = .int x) (hfit : fits ty (.int x) = true) (hl : k < fs.length) (d : decode cc pc = .ok (.putfield idx, 3)) (kk : NN X nL ((h0, .inr (ci, fs.set k (.int x))) :: w) kc ks (pc + 3) lv st) : NN X nL ((h0, .inr (ci, fs)) :: w) kc ks pc lv (.int x :: .ref h0 :: st) := by
  obtain ⟨p, l, e, R, s, m, args, below, meth, c, D, cy0, A, kc0, ks0, Q⟩ := X
  obtain ⟨hx, hb, hml, hown, hts, hK, -, hA, hr⟩ := hX
  obtain ⟨C, T, N, ty0, h1, h2, h3, h4, h5, h6, h7, h8⟩ := hF
  intro H locs ls hP hD hS hls
  exact va_put hx hb hts h3 ty0 h5 h6 hown hK.1 hP hD hS 0 rfl h1 k h2 (hts _ h4) (fun _ h => h) h7 h8 hn hfit hl d (fun H1 locs1 hP1 hD1 hS1 => kk H1 locs1 ls hP1 hD1 hS1 hls)
theorem n_get {idx ci k h0 : Nat} {v : Value} {fs : List Value} (hX : NOK X cy nL cc own fr lo mc ms) (hF : FL own idx ci k) (hv : fs[k]? = some v) (d : decode cc pc = .ok (.getfield idx, 3)) (kk : NN X nL ((h0, .inr (ci, fs)) :: w) kc ks (pc + 3) lv (v :: st)) : NN X nL ((h0, .inr (ci, fs)) :: w) kc ks pc lv (.ref h0 :: st) := by
  obtain ⟨p, l, e, R, s, m, args, below, meth, c, D, cy0, A, kc0, ks0, Q⟩ := X
  obtain ⟨hx, hb, hml, hown, hts, hK, -, hA, hr⟩ := hX
  obtain ⟨C, T, N, h1, h2, h3, h4⟩ := hF
  intro H locs ls hP hD hS hls
  exact va_get hx hb hts h3 hown hK.1 hP 0 rfl h1 k h2 (hts _ h4) (fun _ h => h) hv d (kk H locs ls hP hD hS hls)
theorem n_ret {c0 : Nat} {cs : List Nat} {M : Mm} {h0 : Nat} (ad : Nat → Nat) (hX : NOK X cy nL cc own fr lo mc ms) (hR : NR X cy c0 cs M h0 mc ms) (e : w = wl cy ad cs M) (e0 : ad c0 = h0) (d : decode cc pc = .ok (.return_, 1)) : NN X nL w mc ms pc lv [] := by
  obtain ⟨p, l, e', R, s, m, args, below, meth, c, D, cy0, A, kc0, ks0, Q⟩ := X
  obtain ⟨rfl, hr, hlk⟩ := hR
  subst e
  intro H locs ls hP hD hS hl
  exact W.vret hX.1 hX.2.1 hr (fun t ht _ => ⟨⟨ad, rfl, e0, by rw [ht]; exact hP, hD⟩, hS.F ht⟩) hS.2.2 d hlk
end VN
