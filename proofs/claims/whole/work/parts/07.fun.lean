def fX10_within (w0 : Int32) (w1 : Int32) (w2 : Int32) : Option (Int32) :=
(if w0 < w1 then
some 0
else
(if w2 < w0 then
some 0
else
some 1))
def fX7_copyFrom (c : Nat) (o : Nat) (M : Mm) : Option (Mm) :=
bd (stI M c 0 (M.1 o 0)) fun M1 =>
bd (cpI M1 (o + 1) 0 (c + 1) 0 10) fun M2 =>
bd (cpI M2 (o + 2) 0 (c + 2) 0 30) fun M3 =>
some M3
def fX0_copyFrom (c : Nat) (o : Nat) (M : Mm) : Option (Mm) :=
bd (cpI M (o + 1) 0 (c + 1) 0 3) fun M1 =>
bd (cpI M1 (o + 2) 0 (c + 2) 0 3) fun M2 =>
some M2
def fX1_copyFrom (c : Nat) (o : Nat) (M : Mm) : Option (Mm) :=
bd (stI M c 0 (M.1 o 0)) fun M1 =>
bd (cpI M1 (o + 1) 0 (c + 1) 0 24) fun M2 =>
bd (cpI M2 (o + 2) 0 (c + 2) 0 8) fun M3 =>
some M3
def fX4_copyFrom (c : Nat) (o : Nat) (M : Mm) : Option (Mm) :=
bd (cpI M (o + 1) 0 (c + 1) 0 3) fun M1 =>
bd (stI M1 c 1 (M1.1 o 1)) fun M2 =>
bd (stI M2 c 2 (M2.1 o 2)) fun M3 =>
bd (stI M3 c 3 (M3.1 o 3)) fun M4 =>
bd (stI M4 c 4 (M4.1 o 4)) fun M5 =>
bd (stI M5 c 5 (M5.1 o 5)) fun M6 =>
bd (stI M6 c 6 (M6.1 o 6)) fun M7 =>
bd (cpI M7 (o + 2) 0 (c + 2) 0 18) fun M8 =>
gd ((M8.1 o 8) = 0 ∨ (M8.1 o 8) = 1) <|
bd (stI M8 c 8 (M8.1 o 8)) fun M10 =>
some M10
def fX6_copyFrom (c : Nat) (o : Nat) (M : Mm) : Option (Mm) :=
bd (stI M c 0 (M.1 o 0)) fun M1 =>
bd (stI M1 c 1 (M1.1 o 1)) fun M2 =>
bd (stI M2 c 2 (M2.1 o 2)) fun M3 =>
b1 (fX7_copyFrom (c + 1) (o + 1) M3) fun M5 =>
b1 (fX0_copyFrom (c + 4) (o + 4) M5) fun M7 =>
b1 (fX1_copyFrom (c + 7) (o + 7) M7) fun M9 =>
b1 (fX4_copyFrom (c + 10) (o + 10) M9) fun M11 =>
some M11
def fX2_push (M : Mm) : Option (Mm) :=
b1 (fX6_copyFrom 54 41 M) fun M2 =>
b1 (fX6_copyFrom 41 28 M2) fun M4 =>
b1 (fX6_copyFrom 28 15 M4) fun M6 =>
b1 (fX6_copyFrom 15 1 M6) fun M8 =>
bd (stI M8 14 0 (if 4 < ((M8.1 14 0) + 1) then 4 else ((M8.1 14 0) + 1))) fun M9 =>
some M9
def fX0_reset_L2 : (Int32 × Mm) → Option ((Int32 × Mm) ⊕ (Mm)) :=
u2 (fun (x1 : Int32) (M2 : Mm) =>
(if 3 ≤ x1 then
some (Sum.inr M2)
else
gd (inb x1 3) <|
bd (stI M2 6 (ix x1) (-50)) fun M5 =>
bd (stI M5 7 (ix x1) 50) fun M6 =>
bd (x1 + 1) fun x7 =>
some (Sum.inl (x7, M6))))
def fX0_reset (M : Mm) : Option (Mm) :=
b1 (itr (fX0_reset_L2) 1000 (0, M)) fun M9 =>
some M9
def fX1_add (M : Mm) (w1 : Int32) (w2 : Int32) (w3 : Int32) : Option (Mm) :=
(if (M.1 8 0) < 8 then
gd (inb (3 * (M.1 8 0)) 24) <|
bd (stI M 9 (ix (3 * (M.1 8 0))) w1) fun M3 =>
gd (inb ((3 * (M3.1 8 0)) + 1) 24) <|
bd (stI M3 9 (ix ((3 * (M3.1 8 0)) + 1)) w2) fun M5 =>
gd (inb ((3 * (M5.1 8 0)) + 2) 24) <|
bd (stI M5 9 (ix ((3 * (M5.1 8 0)) + 2)) w3) fun M7 =>
gd (inb (M7.1 8 0) 8) <|
bd (stI M7 10 (ix (M7.1 8 0)) 0) fun M9 =>
bd (stI M9 8 0 ((M9.1 8 0) + 1)) fun M10 =>
some M10
else
some M)
def fX1_addAlong (M : Mm) (w1 : Int32) (w2 : Int32) : Option (Mm) :=
bd (fun (x3 : Int32) =>
bd (fun (x6 : Int32) =>
(if w1 = 2 then
b1 (fX1_add M x3 x6 w2) fun M11 =>
some M11
else
b1 (fX1_add M x3 x6 0) fun M9 =>
some M9)) fun k4 =>
(if w1 = 1 then
k4 w2
else
k4 0)) fun k1 =>
(if w1 = 0 then
k1 w2
else
k1 0)
def fX1_reset_L7 (w1 : Int32) : (Int32 × Mm) → Option ((Int32 × Mm) ⊕ (Mm)) :=
u2 (fun (x2 : Int32) (M3 : Mm) =>
(if w1 ≤ x2 then
some (Sum.inr M3)
else
b1 (fX1_addAlong M3 x2 1) fun M6 =>
b1 (fX1_addAlong M6 x2 (-1)) fun M8 =>
bd (x2 + 1) fun x9 =>
some (Sum.inl (x9, M8))))
def fX1_reset (M : Mm) (w1 : Int32) : Option (Mm) :=
bd (stI M 8 0 0) fun M1 =>
b1 (itr (fX1_reset_L7 w1) 1000 (0, M1)) fun M11 =>
some M11
def fX4_moveTo (M : Mm) (w1 : Int32) (w2 : Int32) (w3 : Int32) : Option (Mm) :=
bd (stI M 12 0 w1) fun M1 =>
bd (stI M1 12 1 w2) fun M2 =>
bd (stI M2 12 2 w3) fun M3 =>
some M3
def fX4_begin (M : Mm) (w1 : Int32) (w2 : Int32) (w3 : Int32) (w4 : Int32) : Option (Mm) :=
b1 (fX4_moveTo M w1 w2 w3) fun M2 =>
bd (stI M2 11 1 w4) fun M3 =>
bd (stI M3 11 2 0) fun M4 =>
bd (stI M4 11 3 0) fun M5 =>
bd (stI M5 11 4 0) fun M6 =>
bd (stI M6 11 5 (-1)) fun M7 =>
bd (stI M7 11 6 0) fun M8 =>
bd (stI M8 11 8 0) fun M9 =>
some M9
def fX6_reset (M : Mm) (w1 : Int32) : Option (Mm) :=
bd (stI M 1 0 w1) fun M1 =>
bd (stI M1 1 1 0) fun M2 =>
bd (stI M2 1 2 0) fun M3 =>
bd (stI M3 2 0 0) fun M4 =>
b1 (fX0_reset M4) fun M6 =>
b1 (fX1_reset M6 w1) fun M8 =>
b1 (fX4_begin M8 0 0 0 4) fun M10 =>
some M10
def fX10_variables (M : Mm) (w1 : Int32) : Option (Int32 × Mm) :=
b1 (fX10_within w1 1 3) fun x2 =>
(if x2 = 0 then
some ((-1000001), M)
else
bd (M.1 1 0) fun x4 =>
b1 (fX2_push M) fun M6 =>
b1 (fX6_reset M6 w1) fun M8 =>
some (x4, M8))
def fX11_in (w0 : Int32) (w1 : Int32) (w2 : Int32) : Option (Int32) :=
(if w0 < w1 then
some 0
else
(if w2 < w0 then
some 0
else
some 1))
def fX11_record_L50 : (Int32 × Mm) → Option ((Int32 × Mm) ⊕ (Mm)) :=
u2 (fun (x4 : Int32) (M5 : Mm) =>
(if 111 ≤ x4 then
some (Sum.inr M5)
else
gd (inb x4 111) <|
gd (inb (((M5.1 95 3) * 111) + x4) 444) <|
bd (stI M5 97 (ix (((M5.1 95 3) * 111) + x4)) (M5.1 96 (ix x4))) fun M9 =>
bd (x4 + 1) fun x10 =>
some (Sum.inl (x10, M9))))
def fX11_record_L10 : (Int32 × Mm) → Option ((Int32 × Mm) ⊕ (Mm)) :=
u2 (fun (x16 : Int32) (M17 : Mm) =>
(if 333 ≤ x16 then
some (Sum.inr M17)
else
gd (inb (x16 + 111) 444) <|
gd (inb x16 444) <|
bd (stI M17 97 (ix x16) (M17.1 97 (ix (x16 + 111)))) fun M21 =>
bd (x16 + 1) fun x22 =>
some (Sum.inl (x22, M21))))
def fX11_record (M : Mm) : Option (Mm) :=
bd (fun (M3 : Mm) =>
b1 (itr (fX11_record_L50) 1000 (0, M3)) fun M12 =>
bd (stI M12 95 3 ((M12.1 95 3) + 1)) fun M13 =>
some M13) fun k1 =>
(if (M.1 95 3) = 4 then
b1 (itr (fX11_record_L10) 1000 (0, M)) fun M24 =>
bd (stI M24 95 3 ((M24.1 95 3) - 1)) fun M25 =>
k1 M25
else
k1 M)
def fX11_begin_L2 : (Int32 × Mm) → Option ((Int32 × Mm) ⊕ (Mm)) :=
u2 (fun (x1 : Int32) (M2 : Mm) =>
(if 111 ≤ x1 then
some (Sum.inr M2)
else
gd (inb x1 111) <|
bd (stI M2 96 (ix x1) 0) fun M5 =>
bd (x1 + 1) fun x6 =>
some (Sum.inl (x6, M5))))
def fX11_begin_L45 : (Int32 × Mm) → Option ((Int32 × Mm) ⊕ (Mm)) :=
u2 (fun (x12 : Int32) (M13 : Mm) =>
(if 3 ≤ x12 then
some (Sum.inr M13)
else
gd (inb (12 + x12) 111) <|
bd (stI M13 96 (ix (12 + x12)) (-50)) fun M16 =>
gd (inb (15 + x12) 111) <|
bd (stI M16 96 (ix (15 + x12)) 50) fun M18 =>
bd (x12 + 1) fun x19 =>
some (Sum.inl (x19, M18))))
def fX11_begin_L80 (w1 : Int32) : (Int32 × Mm) → Option ((Int32 × Mm) ⊕ (Mm)) :=
u2 (fun (x22 : Int32) (M23 : Mm) =>
(if w1 ≤ x22 then
some (Sum.inr M23)
else
gd (inb ((61 + (8 * x22)) + x22) 111) <|
bd (stI M23 96 (ix ((61 + (8 * x22)) + x22)) 1) fun M26 =>
gd (inb (((61 + (8 * x22)) + 4) + x22) 111) <|
bd (stI M26 96 (ix (((61 + (8 * x22)) + 4) + x22)) (-1)) fun M28 =>
bd (x22 + 1) fun x29 =>
some (Sum.inl (x29, M28))))
def fX11_begin (M : Mm) (w1 : Int32) : Option (Mm) :=
b1 (itr (fX11_begin_L2) 1000 (0, M)) fun M8 =>
bd (stI M8 96 0 w1) fun M9 =>
bd (stI M9 96 3 2) fun M10 =>
bd (stI M10 96 9 (-1)) fun M11 =>
b1 (itr (fX11_begin_L45) 1000 (0, M11)) fun M21 =>
b1 (itr (fX11_begin_L80 w1) 1000 (0, M21)) fun M31 =>
bd (stI M31 96 2 (2 * w1)) fun M32 =>
some M32
def fX11_variables (M : Mm) (w1 : Int32) : Option (Int32 × Mm) :=
b1 (fX11_in w1 1 3) fun x2 =>
(if x2 = 0 then
some ((-1000001), M)
else
b1 (fX11_record M) fun M5 =>
bd (M5.1 96 0) fun x6 =>
b1 (fX11_begin M5 w1) fun M8 =>
some (x6, M8))
def fX6_fit (M : Mm) (w1 : Int32) (w2 : Int32) (w3 : Int32) (w4 : Int32) (w5 : Int32) : Option (Int32) :=
b1 (fX10_within w1 w4 w5) fun x2 =>
(if x2 = 0 then
some 0
else
b1 (fX10_within w2 w4 w5) fun x5 =>
(if x5 = 0 then
some 0
else
b1 (fX10_within w3 w4 w5) fun x8 =>
(if x8 = 0 then
some 0
else
bd (fun (_ : Unit) =>
(if 2 < (M.1 1 0) then
some 1
else
(if w3 = 0 then
some 1
else
some 0))) fun k10 =>
(if 1 < (M.1 1 0) then
k10 ()
else
(if w2 = 0 then
k10 ()
else
some 0)))))
def fX7_add_2 (M : Mm) (w1 : Int32) (w2 : Int32) (w3 : Int32) (w4 : Int32) : Option (Mm) :=
(if (M.1 2 0) < 10 then
gd (inb (M.1 2 0) 10) <|
bd (stI M 3 (ix (M.1 2 0)) w1) fun M3 =>
gd (inb (3 * (M3.1 2 0)) 30) <|
bd (stI M3 4 (ix (3 * (M3.1 2 0))) w2) fun M5 =>
gd (inb ((3 * (M5.1 2 0)) + 1) 30) <|
bd (stI M5 4 (ix ((3 * (M5.1 2 0)) + 1)) w3) fun M7 =>
gd (inb ((3 * (M7.1 2 0)) + 2) 30) <|
bd (stI M7 4 (ix ((3 * (M7.1 2 0)) + 2)) w4) fun M9 =>
bd (stI M9 2 0 ((M9.1 2 0) + 1)) fun M10 =>
some M10
else
some M)
def fX10_term (M : Mm) (w1 : Int32) (w2 : Int32) (w3 : Int32) (w4 : Int32) : Option (Int32 × Mm) :=
b1 (fX10_within w1 (-99) 99) fun x2 =>
(if x2 = 0 then
some ((-1000001), M)
else
(if w1 = 0 then
some ((-1000001), M)
else
b1 (fX6_fit M w2 w3 w4 0 4) fun x6 =>
(if x6 = 0 then
some ((-1000001), M)
else
(if ((w2 + w3) + w4) ≤ 4 then
(if (M.1 2 0) < 10 then
b1 (fX2_push M) fun M11 =>
b1 (fX7_add_2 M11 w1 w2 w3 w4) fun M13 =>
some (M13.1 2 0, M13)
else
some ((-1000003), M))
else
some ((-1000001), M)))))
def fX11_areOfVariables (M : Mm) (w1 : Int32) (w2 : Int32) (w3 : Int32) : Option (Int32) :=
bd (fun (_ : Unit) =>
(if 2 < (M.1 96 0) then
some 1
else
(if w3 = 0 then
some 1
else
some 0))) fun k1 =>
(if 1 < (M.1 96 0) then
k1 ()
else
(if w2 = 0 then
k1 ()
else
some 0))
def fX11_termMany (M : Mm) : Option (Int32) :=
some (M.1 96 1)
def fX11_putTerm (M : Mm) (w1 : Int32) (w2 : Int32) (w3 : Int32) (w4 : Int32) (w5 : Int32) : Option (Mm) :=
gd (inb (21 + (4 * w1)) 111) <|
bd (stI M 96 (ix (21 + (4 * w1))) w2) fun M2 =>
gd (inb ((21 + (4 * w1)) + 1) 111) <|
bd (stI M2 96 (ix ((21 + (4 * w1)) + 1)) w3) fun M4 =>
gd (inb ((21 + (4 * w1)) + 2) 111) <|
bd (stI M4 96 (ix ((21 + (4 * w1)) + 2)) w4) fun M6 =>
gd (inb ((21 + (4 * w1)) + 3) 111) <|
bd (stI M6 96 (ix ((21 + (4 * w1)) + 3)) w5) fun M8 =>
some M8
def fX11_oneMore (M : Mm) (w1 : Int32) : Option (Int32 × Mm) :=
gd (inb w1 111) <|
bd (stI M 96 (ix w1) ((M.1 96 (ix w1)) + 1)) fun M2 =>
some (M2.1 96 (ix w1), M2)
def fX11_term (M : Mm) (w1 : Int32) (w2 : Int32) (w3 : Int32) (w4 : Int32) : Option (Int32 × Mm) :=
b1 (fX11_in w1 (-99) 99) fun x2 =>
bd (fun (x5 : Int32) =>
(if x5 = 0 then
some ((-1000001), M)
else
(if 4 < ((w2 + w3) + w4) then
some ((-1000001), M)
else
b1 (fX11_areOfVariables M w2 w3 w4) fun x9 =>
(if x9 = 0 then
some ((-1000001), M)
else
b1 (fX11_termMany M) fun x12 =>
(if x12 = 10 then
some ((-1000003), M)
else
b1 (fX11_record M) fun M15 =>
b1 (fX11_termMany M15) fun x17 =>
b1 (fX11_putTerm M15 x17 w1 w2 w3 w4) fun M19 =>
b2 (fX11_oneMore M19 1) fun x21 M22 =>
some (x21, M22)))))) fun k3 =>
bd (fun (_ : Unit) =>
k3 0) fun k23 =>
(if x2 = 0 then
k23 ()
else
(if w1 = 0 then
k23 ()
else
b1 (fX11_in w2 0 4) fun x28 =>
(if x28 = 0 then
k23 ()
else
b1 (fX11_in w3 0 4) fun x31 =>
(if x31 = 0 then
k23 ()
else
b1 (fX11_in w4 0 4) fun x34 =>
(if x34 = 0 then
k23 ()
else
k3 1)))))
def fX10_closeGap_L5 (w1 : Int32) (w3 : Int32) (n : Nat) (a : Nat) : (Int32 × Mm) → Option ((Int32 × Mm) ⊕ (Mm)) :=
u2 (fun (x2 : Int32) (M3 : Mm) =>
(if (w1 * w3) ≤ (x2 + w1) then
some (Sum.inr M3)
else
gd (inb (x2 + w1) n) <|
gd (inb x2 n) <|
bd (stI M3 a (ix x2) (M3.1 a (ix (x2 + w1)))) fun M7 =>
bd (x2 + 1) fun x8 =>
some (Sum.inl (x8, M7))))
def fX10_closeGap (a n : Nat) (M : Mm) (w1 : Int32) (w2 : Int32) (w3 : Int32) : Option (Mm) :=
bd (w1 * w2) fun x1 =>
b1 (itr (fX10_closeGap_L5 w1 w3 n a) 1000 (x1, M)) fun M10 =>
some M10
def fX7_remove (M : Mm) (w1 : Int32) : Option (Mm) :=
(if w1 < 0 then
some M
else
(if w1 < (M.1 2 0) then
b1 (fX10_closeGap 3 10 M 1 w1 (M.1 2 0)) fun M4 =>
b1 (fX10_closeGap 4 30 M4 3 w1 (M4.1 2 0)) fun M6 =>
bd (stI M6 2 0 ((M6.1 2 0) - 1)) fun M7 =>
some M7
else
some M))
def fX10_dropTerm (M : Mm) (w1 : Int32) : Option (Int32 × Mm) :=
(if 0 ≤ w1 then
(if w1 < (M.1 2 0) then
gd (inb w1 10) <|
bd (M.1 3 (ix w1)) fun x4 =>
b1 (fX2_push M) fun M6 =>
b1 (fX7_remove M6 w1) fun M8 =>
some (x4, M8)
else
some ((-1000002), M))
else
some ((-1000001), M))
def fX11_dropTerm_L53 : (Int32 × Mm) → Option ((Int32 × Mm) ⊕ (Mm)) :=
u2 (fun (x9 : Int32) (M10 : Mm) =>
(if (21 + (4 * (M10.1 96 1))) ≤ x9 then
some (Sum.inr M10)
else
gd (inb (x9 + 4) 111) <|
gd (inb x9 111) <|
bd (stI M10 96 (ix x9) (M10.1 96 (ix (x9 + 4)))) fun M14 =>
bd (x9 + 1) fun x15 =>
some (Sum.inl (x15, M14))))
def fX11_dropTerm (M : Mm) (w1 : Int32) : Option (Int32 × Mm) :=
(if 0 ≤ w1 then
(if w1 < (M.1 96 1) then
b1 (fX11_record M) fun M4 =>
gd (inb (21 + (4 * w1)) 111) <|
bd (M4.1 96 (ix (21 + (4 * w1)))) fun x6 =>
bd (stI M4 96 1 ((M4.1 96 1) - 1)) fun M7 =>
bd (21 + (4 * w1)) fun x8 =>
b1 (itr (fX11_dropTerm_L53) 1000 (x8, M7)) fun M17 =>
some (x6, M17)
else
some ((-1000002), M))
else
some ((-1000001), M))
def fX6_hasVariable (M : Mm) (w1 : Int32) : Option (Int32) :=
b1 (fX10_within w1 0 ((M.1 1 0) - 1)) fun x2 =>
gd (x2 = 0 ∨ x2 = 1) <|
some x2
def fX0_allow (M : Mm) (w1 : Int32) (w2 : Int32) (w3 : Int32) : Option (Int32) :=
b1 (fX10_within w1 (M.1 6 0) (M.1 7 0)) fun x2 =>
(if x2 = 0 then
some 0
else
b1 (fX10_within w2 (M.1 6 1) (M.1 7 1)) fun x5 =>
(if x5 = 0 then
some 0
else
b1 (fX10_within w3 (M.1 6 2) (M.1 7 2)) fun x8 =>
(if x8 = 0 then
some 0
else
some 1)))
def fX6_placeIsAllowed (M : Mm) : Option (Int32) :=
b1 (fX0_allow M (M.1 12 0) (M.1 12 1) (M.1 12 2)) fun x2 =>
gd (x2 = 0 ∨ x2 = 1) <|
some x2
def fX10_oneIf (w0 : Int32) : Option (Int32) :=
(if w0 = 0 then
some 0
else
some 1)
def fX10_bound (M : Mm) (w1 : Int32) (w2 : Int32) (w3 : Int32) : Option (Int32 × Mm) :=
b1 (fX6_hasVariable M w1) fun x2 =>
(if x2 = 0 then
some ((-1000001), M)
else
b1 (fX10_within w2 (-50) 50) fun x5 =>
(if x5 = 0 then
some ((-1000001), M)
else
b1 (fX10_within w3 w2 50) fun x8 =>
(if x8 = 0 then
some ((-1000001), M)
else
b1 (fX2_push M) fun M11 =>
gd (inb w1 3) <|
bd (stI M11 6 (ix w1) w2) fun M13 =>
bd (stI M13 7 (ix w1) w3) fun M14 =>
b1 (fX6_placeIsAllowed M14) fun x16 =>
b1 (fX10_oneIf x16) fun x18 =>
some (x18, M14))))
def fX11_isVariable (M : Mm) (w1 : Int32) : Option (Int32) :=
b1 (fX11_in w1 0 ((M.1 96 0) - 1)) fun x2 =>
gd (x2 = 0 ∨ x2 = 1) <|
some x2
def fX11_isAllowed (M : Mm) (w1 : Int32) (w2 : Int32) (w3 : Int32) : Option (Int32) :=
b1 (fX11_in w1 (M.1 96 12) (M.1 96 15)) fun x2 =>
(if x2 = 0 then
some 0
else
b1 (fX11_in w2 (M.1 96 13) (M.1 96 16)) fun x5 =>
(if x5 = 0 then
some 0
else
b1 (fX11_in w3 (M.1 96 14) (M.1 96 17)) fun x8 =>
(if x8 = 0 then
some 0
else
some 1)))
def fX11_isHereAllowed (M : Mm) : Option (Int32) :=
b1 (fX11_isAllowed M (M.1 96 18) (M.1 96 19) (M.1 96 20)) fun x2 =>
gd (x2 = 0 ∨ x2 = 1) <|
some x2
def fX11_bound (M : Mm) (w1 : Int32) (w2 : Int32) (w3 : Int32) : Option (Int32 × Mm) :=
b1 (fX11_isVariable M w1) fun x2 =>
(if x2 = 0 then
some ((-1000001), M)
else
b1 (fX11_in w2 (-50) 50) fun x5 =>
(if x5 = 0 then
some ((-1000001), M)
else
b1 (fX11_in w3 w2 50) fun x8 =>
(if x8 = 0 then
some ((-1000001), M)
else
b1 (fX11_record M) fun M11 =>
gd (inb (12 + w1) 111) <|
bd (stI M11 96 (ix (12 + w1)) w2) fun M13 =>
gd (inb (15 + w1) 111) <|
bd (stI M13 96 (ix (15 + w1)) w3) fun M15 =>
b1 (fX11_isHereAllowed M15) fun x17 =>
(if x17 = 0 then
some (0, M15)
else
some (1, M15)))))
def fX1_has_L3 (M : Mm) (w1 : Int32) (w2 : Int32) (w3 : Int32) : (Int32) → Option ((Int32) ⊕ ((Unit) ⊕ (Unit))) :=
fun (x1 : Int32) =>
(if (M.1 8 0) ≤ x1 then
some (Sum.inr (Sum.inr ()))
else
bd (3 * x1) fun x3 =>
gd (inb x3 24) <|
bd (fun (_ : Unit) =>
bd (x1 + 1) fun x7 =>
some (Sum.inl x7)) fun k5 =>
(if (M.1 9 (ix x3)) = w1 then
gd (inb (x3 + 1) 24) <|
(if (M.1 9 (ix (x3 + 1))) = w2 then
gd (inb (x3 + 2) 24) <|
(if (M.1 9 (ix (x3 + 2))) = w3 then
some (Sum.inr (Sum.inl ()))
else
k5 ())
else
k5 ())
else
k5 ()))
def fX1_has (M : Mm) (w1 : Int32) (w2 : Int32) (w3 : Int32) : Option (Int32) :=
bs (itr (fX1_has_L3 M w1 w2 w3) 1000 0) (fun (_ : Unit) =>
some 1) (fun (_ : Unit) =>
some 0)
def fX10_direction (M : Mm) (w1 : Int32) (w2 : Int32) (w3 : Int32) : Option (Int32 × Mm) :=
b1 (fX6_fit M w1 w2 w3 (-3) 3) fun x2 =>
(if x2 = 0 then
some ((-1000001), M)
else
bd (fun (_ : Unit) =>
b1 (fX1_has M w1 w2 w3) fun x7 =>
(if x7 = 0 then
(if (M.1 8 0) < 8 then
b1 (fX2_push M) fun M11 =>
b1 (fX1_add M11 w1 w2 w3) fun M13 =>
some ((M13.1 8 0) - 1, M13)
else
some ((-1000003), M))
else
some ((-1000002), M))) fun k4 =>
(if w1 = 0 then
(if w2 = 0 then
(if w3 = 0 then
some ((-1000001), M)
else
k4 ())
else
k4 ())
else
k4 ()))
def fX11_directionMany (M : Mm) : Option (Int32) :=
some (M.1 96 2)
def fX11_putDirection (M : Mm) (w1 : Int32) (w2 : Int32) (w3 : Int32) (w4 : Int32) : Option (Mm) :=
gd (inb (61 + (4 * w1)) 111) <|
bd (stI M 96 (ix (61 + (4 * w1))) w2) fun M2 =>
gd (inb ((61 + (4 * w1)) + 1) 111) <|
bd (stI M2 96 (ix ((61 + (4 * w1)) + 1)) w3) fun M4 =>
gd (inb ((61 + (4 * w1)) + 2) 111) <|
bd (stI M4 96 (ix ((61 + (4 * w1)) + 2)) w4) fun M6 =>
gd (inb ((61 + (4 * w1)) + 3) 111) <|
bd (stI M6 96 (ix ((61 + (4 * w1)) + 3)) 0) fun M8 =>
some M8
def fX11_step (M : Mm) (w1 : Int32) (w2 : Int32) : Option (Int32) :=
gd (inb ((61 + (4 * w1)) + w2) 111) <|
some (M.1 96 (ix ((61 + (4 * w1)) + w2)))
def fX11_direction_L70 (M : Mm) (w1 : Int32) (w2 : Int32) (w3 : Int32) : (Int32) → Option ((Int32) ⊕ ((Unit) ⊕ (Unit))) :=
fun (x9 : Int32) =>
b1 (fX11_directionMany M) fun x11 =>
(if x11 ≤ x9 then
some (Sum.inr (Sum.inr ()))
else
b1 (fX11_step M x9 0) fun x14 =>
bd (fun (_ : Unit) =>
bd (x9 + 1) fun x17 =>
some (Sum.inl x17)) fun k15 =>
(if x14 = w1 then
b1 (fX11_step M x9 1) fun x20 =>
(if x20 = w2 then
b1 (fX11_step M x9 2) fun x23 =>
(if x23 = w3 then
some (Sum.inr (Sum.inl ()))
else
k15 ())
else
k15 ())
else
k15 ()))
def fX11_direction (M : Mm) (w1 : Int32) (w2 : Int32) (w3 : Int32) : Option (Int32 × Mm) :=
b1 (fX11_in w1 (-3) 3) fun x2 =>
bd (fun (x5 : Int32) =>
(if x5 = 0 then
some ((-1000001), M)
else
bd (fun (_ : Unit) =>
bs (itr (fX11_direction_L70 M w1 w2 w3) 1000 0) (fun (_ : Unit) =>
some ((-1000002), M)) (fun (_ : Unit) =>
b1 (fX11_directionMany M) fun x27 =>
(if x27 = 8 then
some ((-1000003), M)
else
b1 (fX11_record M) fun M30 =>
b1 (fX11_directionMany M30) fun x32 =>
b1 (fX11_putDirection M30 x32 w1 w2 w3) fun M34 =>
b2 (fX11_oneMore M34 2) fun x36 M37 =>
some (x36 - 1, M37)))) fun k7 =>
(if w1 = 0 then
(if w2 = 0 then
(if w3 = 0 then
some ((-1000001), M)
else
k7 ())
else
k7 ())
else
k7 ()))) fun k3 =>
bd (fun (_ : Unit) =>
k3 0) fun k42 =>
(if x2 = 0 then
k42 ()
else
b1 (fX11_in w2 (-3) 3) fun x46 =>
(if x46 = 0 then
k42 ()
else
b1 (fX11_in w3 (-3) 3) fun x49 =>
(if x49 = 0 then
k42 ()
else
b1 (fX11_areOfVariables M w1 w2 w3) fun x52 =>
(if x52 = 0 then
k42 ()
else
k3 1))))
def fX1_remove (M : Mm) (w1 : Int32) : Option (Mm) :=
(if w1 < 0 then
some M
else
(if w1 < (M.1 8 0) then
b1 (fX10_closeGap 10 8 M 1 w1 (M.1 8 0)) fun M4 =>
b1 (fX10_closeGap 9 24 M4 3 w1 (M4.1 8 0)) fun M6 =>
bd (stI M6 8 0 ((M6.1 8 0) - 1)) fun M7 =>
some M7
else
some M))
def fX4_forgetDirection (M : Mm) (w1 : Int32) : Option (Mm) :=
(if (M.1 11 5) = w1 then
bd (stI M 11 5 (-1)) fun M4 =>
some M4
else
(if (M.1 11 5) ≤ w1 then
some M
else
bd (stI M 11 5 ((M.1 11 5) - 1)) fun M3 =>
some M3))
def fX10_dropDirection (M : Mm) (w1 : Int32) : Option (Int32 × Mm) :=
(if 0 ≤ w1 then
(if w1 < (M.1 8 0) then
b1 (fX2_push M) fun M4 =>
b1 (fX1_remove M4 w1) fun M6 =>
b1 (fX4_forgetDirection M6 w1) fun M8 =>
some (M8.1 8 0, M8)
else
some ((-1000002), M))
else
some ((-1000001), M))
def fX11_dropDirection_L41 : (Int32 × Mm) → Option ((Int32 × Mm) ⊕ (Mm)) :=
u2 (fun (x7 : Int32) (M8 : Mm) =>
(if (61 + (4 * (M8.1 96 2))) ≤ x7 then
some (Sum.inr M8)
else
gd (inb (x7 + 4) 111) <|
gd (inb x7 111) <|
bd (stI M8 96 (ix x7) (M8.1 96 (ix (x7 + 4)))) fun M12 =>
bd (x7 + 1) fun x13 =>
some (Sum.inl (x13, M12))))
def fX11_dropDirection (M : Mm) (w1 : Int32) : Option (Int32 × Mm) :=
(if 0 ≤ w1 then
(if w1 < (M.1 96 2) then
b1 (fX11_record M) fun M4 =>
bd (stI M4 96 2 ((M4.1 96 2) - 1)) fun M5 =>
bd (61 + (4 * w1)) fun x6 =>
b1 (itr (fX11_dropDirection_L41) 1000 (x6, M5)) fun M15 =>
(if (M15.1 96 9) = w1 then
bd (stI M15 96 9 (-1)) fun M20 =>
some (M20.1 96 2, M20)
else
(if (M15.1 96 9) ≤ w1 then
bd (stI M15 96 9 (M15.1 96 9)) fun M18 =>
some (M18.1 96 2, M18)
else
bd (stI M15 96 9 ((M15.1 96 9) - 1)) fun M19 =>
some (M19.1 96 2, M19)))
else
some ((-1000002), M))
else
some ((-1000001), M))
def fX1_forgetTaken_L2 : (Int32 × Mm) → Option ((Int32 × Mm) ⊕ (Mm)) :=
u2 (fun (x1 : Int32) (M2 : Mm) =>
(if 8 ≤ x1 then
some (Sum.inr M2)
else
gd (inb x1 8) <|
bd (stI M2 10 (ix x1) 0) fun M5 =>
bd (x1 + 1) fun x6 =>
some (Sum.inl (x6, M5))))
def fX1_forgetTaken (M : Mm) : Option (Mm) :=
b1 (itr (fX1_forgetTaken_L2) 1000 (0, M)) fun M8 =>
some M8
def fX10_start (M : Mm) (w1 : Int32) (w2 : Int32) (w3 : Int32) (w4 : Int32) : Option (Int32 × Mm) :=
b1 (fX6_fit M w1 w2 w3 (-50) 50) fun x2 =>
(if x2 = 0 then
some ((-1000001), M)
else
b1 (fX10_within w4 0 4) fun x5 =>
(if x5 = 0 then
some ((-1000001), M)
else
b1 (fX2_push M) fun M8 =>
b1 (fX4_begin M8 w1 w2 w3 (1 <<< (w4 &&& 31))) fun M10 =>
b1 (fX1_forgetTaken M10) fun M12 =>
b1 (fX6_placeIsAllowed M12) fun x14 =>
b1 (fX10_oneIf x14) fun x16 =>
some (x16, M12)))
def fX11_arePlace (M : Mm) (w1 : Int32) (w2 : Int32) (w3 : Int32) : Option (Int32) :=
b1 (fX11_in w1 (-50) 50) fun x2 =>
(if x2 = 0 then
some 0
else
b1 (fX11_in w2 (-50) 50) fun x5 =>
(if x5 = 0 then
some 0
else
b1 (fX11_in w3 (-50) 50) fun x8 =>
(if x8 = 0 then
some 0
else
b1 (fX11_areOfVariables M w1 w2 w3) fun x11 =>
(if x11 = 0 then
some 0
else
some 1))))
def fX11_clearSearch_L57 : (Int32 × Mm) → Option ((Int32 × Mm) ⊕ (Mm)) :=
u2 (fun (x8 : Int32) (M9 : Mm) =>
(if 8 ≤ x8 then
some (Sum.inr M9)
else
gd (inb ((61 + (4 * x8)) + 3) 111) <|
bd (stI M9 96 (ix ((61 + (4 * x8)) + 3)) 0) fun M12 =>
bd (x8 + 1) fun x13 =>
some (Sum.inl (x13, M12))))
def fX11_clearSearch (M : Mm) (w1 : Int32) : Option (Mm) :=
bd (stI M 96 3 w1) fun M1 =>
bd (stI M1 96 6 0) fun M2 =>
bd (stI M2 96 7 0) fun M3 =>
bd (stI M3 96 8 0) fun M4 =>
bd (stI M4 96 9 (-1)) fun M5 =>
bd (stI M5 96 10 0) fun M6 =>
bd (stI M6 96 11 0) fun M7 =>
b1 (itr (fX11_clearSearch_L57) 1000 (0, M7)) fun M15 =>
some M15
def fX11_putPlace (M : Mm) (w1 : Int32) (w2 : Int32) (w3 : Int32) : Option (Mm) :=
bd (stI M 96 18 w1) fun M1 =>
bd (stI M1 96 19 w2) fun M2 =>
bd (stI M2 96 20 w3) fun M3 =>
some M3
def fX11_start (M : Mm) (w1 : Int32) (w2 : Int32) (w3 : Int32) (w4 : Int32) : Option (Int32 × Mm) :=
b1 (fX11_arePlace M w1 w2 w3) fun x2 =>
(if x2 = 0 then
some ((-1000001), M)
else
b1 (fX11_in w4 0 4) fun x5 =>
(if x5 = 0 then
some ((-1000001), M)
else
b1 (fX11_record M) fun M8 =>
b1 (fX11_clearSearch M8 w4) fun M10 =>
b1 (fX11_putPlace M10 w1 w2 w3) fun M12 =>
b1 (fX11_isHereAllowed M12) fun x14 =>
(if x14 = 0 then
some (0, M12)
else
some (1, M12))))
def fX10_order (M : Mm) (w1 : Int32) (w2 : Int32) : Option (Int32 × Mm) :=
b1 (fX10_within w1 0 2) fun x2 =>
(if x2 = 0 then
some ((-1000001), M)
else
b1 (fX10_within w2 0 1) fun x5 =>
(if x5 = 0 then
some ((-1000001), M)
else
bd ((10 * (M.1 1 1)) + (M.1 1 2)) fun x7 =>
b1 (fX2_push M) fun M9 =>
bd (stI M9 1 1 w1) fun M10 =>
bd (stI M10 1 2 w2) fun M11 =>
some (x7, M11)))
def fX11_order (M : Mm) (w1 : Int32) (w2 : Int32) : Option (Int32 × Mm) :=
b1 (fX11_in w1 0 2) fun x2 =>
(if x2 = 0 then
some ((-1000001), M)
else
b1 (fX11_in w2 0 1) fun x5 =>
(if x5 = 0 then
some ((-1000001), M)
else
b1 (fX11_record M) fun M8 =>
bd ((10 * (M8.1 96 4)) + (M8.1 96 5)) fun x9 =>
bd (stI M8 96 4 w1) fun M10 =>
bd (stI M10 96 5 w2) fun M11 =>
some (x9, M11)))
def fX6_canPoll (M : Mm) : Option (Int32) :=
b1 (fX6_placeIsAllowed M) fun x2 =>
(if x2 = 0 then
some 0
else
(if (M.1 8 0) ≤ 0 then
some 0
else
some 1))
def fX7_raised_L5 (w1 : Int32) (w0 : Int32) : (Int64 × Int32) → Option ((Int64 × Int32) ⊕ (Int64)) :=
u2 (fun (y1 : Int64) (x2 : Int32) =>
(if w1 ≤ x2 then
some (Sum.inr y1)
else
bd (y1 * w0.toInt64) fun y4 =>
bd (x2 + 1) fun x5 =>
some (Sum.inl (y4, x5))))
def fX7_raised (w0 : Int32) (w1 : Int32) : Option (Int64) :=
b1 (itr (fX7_raised_L5 w1 w0) 1000 (1, 0)) fun y7 =>
some y7
def fX7_sumAt_L6 (M : Mm) (w4 : Int32) (w1 : Int32) (w2 : Int32) (w3 : Int32) : (Int64 × Int32) → Option ((Int64 × Int32) ⊕ (Int64)) :=
u2 (fun (y1 : Int64) (x2 : Int32) =>
(if (M.1 2 0) ≤ x2 then
some (Sum.inr y1)
else
bd (3 * x2) fun x4 =>
gd (inb x4 30) <|
gd (inb (x4 + 1) 30) <|
gd (inb (x4 + 2) 30) <|
bd (((M.1 4 (ix x4)) + (M.1 4 (ix (x4 + 1)))) + (M.1 4 (ix (x4 + 2)))) fun x8 =>
bd (fun (y11 : Int64) =>
bd (x2 + 1) fun x12 =>
some (Sum.inl (y11, x12))) fun k9 =>
(if w4 < x8 then
k9 y1
else
gd (inb x2 10) <|
b1 (fX7_raised w1 (M.1 4 (ix x4))) fun y16 =>
b1 (fX7_raised w2 (M.1 4 (ix (x4 + 1)))) fun y18 =>
b1 (fX7_raised w3 (M.1 4 (ix (x4 + 2)))) fun y20 =>
bd (y1 + (((((M.1 3 (ix x2)).toInt64) * y16) * y18) * y20)) fun y21 =>
k9 y21)))
def fX7_sumAt (M : Mm) (w1 : Int32) (w2 : Int32) (w3 : Int32) (w4 : Int32) : Option (Int64) :=
b1 (itr (fX7_sumAt_L6 M w4 w1 w2 w3) 1000 (0, 0)) fun y23 =>
some y23
def fX6_valueHere (M : Mm) : Option (Int64) :=
b1 (fX7_sumAt M (M.1 12 0) (M.1 12 1) (M.1 12 2) 4) fun y2 =>
some y2
def fX6_trialNumber (M : Mm) (w1 : Int32) (w2 : Int32) (w3 : Int32) : Option (Int32) :=
gd (inb w2 3) <|
gd (inb ((3 * w1) + w2) 24) <|
some ((M.1 12 (ix w2)) + (w3 * (M.1 9 (ix ((3 * w1) + w2)))))
def fX6_rankOf (M : Mm) (w1 : Int32) (w2 : Int32) (w3 : Int32) (w4 : Int32) : Option (Int64) :=
(if (M.1 1 1) = 1 then
(if w1 = (M.1 11 5) then
some 0
else
some 1)
else
(if (M.1 1 1) = 2 then
b1 (fX7_sumAt M w2 w3 w4 2) fun y5 =>
some y5
else
some 0))
def fX9_insert_L16 (w2 : Int64) : (Int32 × Mm) → Option ((Int32 × Mm) ⊕ (Int32 × Mm)) :=
u2 (fun (x3 : Int32) (M4 : Mm) =>
(if x3 ≤ 0 then
some (Sum.inr (x3, M4))
else
gd (inb (x3 - 1) 8) <|
(if (lg_cmp (M4.2 88 (ix (x3 - 1))) w2) ≤ 0 then
some (Sum.inr (x3, M4))
else
gd (inb x3 8) <|
bd (stI M4 87 (ix x3) (M4.1 87 (ix (x3 - 1)))) fun M9 =>
bd (stL M9 88 (ix x3) (M9.2 88 (ix (x3 - 1)))) fun M10 =>
bd (stL M10 89 (ix x3) (M10.2 89 (ix (x3 - 1)))) fun M11 =>
bd (x3 + (-1)) fun x12 =>
some (Sum.inl (x12, M11)))))
def fX9_insert (M : Mm) (w1 : Int32) (w2 : Int64) (w3 : Int64) : Option (Mm) :=
(if (M.1 86 0) < 8 then
bd (M.1 86 0) fun x2 =>
b2 (itr (fX9_insert_L16 w2) 1000 (x2, M)) fun x14 M15 =>
gd (inb x14 8) <|
bd (stI M15 87 (ix x14) w1) fun M17 =>
bd (stL M17 88 (ix x14) w2) fun M18 =>
bd (stL M18 89 (ix x14) w3) fun M19 =>
bd (stI M19 86 0 ((M19.1 86 0) + 1)) fun M20 =>
some M20
else
some M)
def fX9_gather_L15 (w2 : Int32) : (Int32 × Mm) → Option ((Int32 × Mm) ⊕ (Mm)) :=
u2 (fun (x5 : Int32) (M6 : Mm) =>
(if (M6.1 8 0) ≤ x5 then
some (Sum.inr M6)
else
b1 (fX6_trialNumber M6 x5 0 w2) fun x9 =>
b1 (fX6_trialNumber M6 x5 1 w2) fun x11 =>
b1 (fX6_trialNumber M6 x5 2 w2) fun x13 =>
b1 (fX0_allow M6 x9 x11 x13) fun x15 =>
bd (fun (M18 : Mm) =>
bd (x5 + 1) fun x19 =>
some (Sum.inl (x19, M18))) fun k16 =>
(if x15 = 0 then
k16 M6
else
b1 (fX6_rankOf M6 x5 x9 x11 x13) fun y22 =>
b1 (fX7_sumAt M6 x9 x11 x13 4) fun y24 =>
b1 (fX9_insert M6 x5 y22 y24) fun M26 =>
k16 M26)))
def fX9_gather (M : Mm) (w2 : Int32) : Option (Mm) :=
bd (stI M 86 0 0) fun M1 =>
b1 (fX6_valueHere M1) fun y3 =>
bd (stL M1 86 4 y3) fun M4 =>
b1 (itr (fX9_gather_L15 w2) 1000 (0, M4)) fun M28 =>
some M28
def fX9_chooseBetter_L15 (w1 : Int32) : (Int32 × Int64 × Int32 × Mm) → Option ((Int32 × Int64 × Int32 × Mm) ⊕ ((Int32 × Mm) ⊕ (Int32 × Mm))) :=
u4 (fun (x3 : Int32) (y4 : Int64) (x5 : Int32) (M6 : Mm) =>
(if (M6.1 86 0) ≤ x5 then
some (Sum.inr (Sum.inr (x3, M6)))
else
bd (stI M6 86 5 ((M6.1 86 5) + 1)) fun M8 =>
gd (inb x5 8) <|
bd (fun (x12 : Int32) (y13 : Int64) =>
bd (x5 + 1) fun x14 =>
some (Sum.inl (x12, y13, x14, M8))) fun k10 =>
(if 0 ≤ (lg_cmp (M8.2 89 (ix x5)) y4) then
k10 x3 y4
else
bd (M8.1 87 (ix x5)) fun x16 =>
bd (M8.2 89 (ix x5)) fun y17 =>
(if w1 = 0 then
some (Sum.inr (Sum.inl (x16, M8)))
else
k10 x16 y17))))
def fX9_chooseBetter (M : Mm) (w1 : Int32) : Option (Int32 × Mm) :=
bd (M.2 86 4) fun y1 =>
bd (stI M 86 5 0) fun M2 =>
bs (itr (fX9_chooseBetter_L15 w1) 1000 ((-1), y1, 0, M2)) (u2 (fun (x20 : Int32) (M21 : Mm) =>
some (x20, M21))) (u2 (fun (x22 : Int32) (M23 : Mm) =>
some (x22, M23)))
def fX4_succeed (M : Mm) (w1 : Int32) (w2 : Int32) (w3 : Int32) (w4 : Int32) : Option (Mm) :=
bd (cpI M 13 0 13 3 15) fun M1 =>
bd (cpI M1 12 0 13 0 3) fun M2 =>
bd (stI M2 11 6 (if 6 < ((M2.1 11 6) + 1) then 6 else ((M2.1 11 6) + 1))) fun M3 =>
b1 (fX4_moveTo M3 w2 w3 w4) fun M5 =>
bd (stI M5 11 1 (if 16 < (2 * (M5.1 11 1)) then 16 else (2 * (M5.1 11 1)))) fun M6 =>
bd (stI M6 11 3 ((M6.1 11 3) + 1)) fun M7 =>
bd (stI M7 11 5 w1) fun M8 =>
bd (stI M8 11 8 0) fun M9 =>
some M9
def fX4_fail (M : Mm) : Option (Mm) :=
bd (fun (x3 : Int32) =>
gd (x3 = 0 ∨ x3 = 1) <|
bd (stI M 11 8 x3) fun M5 =>
bd (stI M5 11 1 (if ((M5.1 11 1) / 2) < 1 then 1 else ((M5.1 11 1) / 2))) fun M6 =>
some M6) fun k1 =>
(if (M.1 11 1) = 1 then
k1 1
else
k1 0)
def fX6_pollOnce (M : Mm) : Option (Int32 × Mm) :=
b1 (fX9_gather M (M.1 11 1)) fun M2 =>
b2 (fX9_chooseBetter M2 (M2.1 1 2)) fun x4 M5 =>
bd (stI M5 11 2 ((M5.1 11 2) + 1)) fun M6 =>
bd (stI M6 11 4 ((M6.1 11 4) + (M6.1 86 5))) fun M7 =>
(if x4 = (-1) then
b1 (fX4_fail M7) fun M21 =>
some ((-1), M21)
else
bd (M7.1 11 1) fun x9 =>
gd (inb x4 8) <|
bd (stI M7 10 (ix x4) ((M7.1 10 (ix x4)) + 1)) fun M11 =>
b1 (fX6_trialNumber M11 x4 0 x9) fun x13 =>
b1 (fX6_trialNumber M11 x4 1 x9) fun x15 =>
b1 (fX6_trialNumber M11 x4 2 x9) fun x17 =>
b1 (fX4_succeed M11 x4 x13 x15 x17) fun M19 =>
some (x4, M19))
def fX10_poll (M : Mm) : Option (Int32 × Mm) :=
b1 (fX6_canPoll M) fun x2 =>
(if x2 = 0 then
some ((-1000002), M)
else
b1 (fX2_push M) fun M5 =>
b2 (fX6_pollOnce M5) fun x7 M8 =>
some (x7, M8))
def fX11_canPoll (M : Mm) : Option (Int32) :=
b1 (fX11_isHereAllowed M) fun x2 =>
(if x2 = 0 then
some 0
else
(if (M.1 96 2) ≤ 0 then
some 0
else
some 1))
def fX11_trialAt (M : Mm) (w1 : Int32) (w2 : Int32) (w3 : Int32) : Option (Int32) :=
gd (inb (18 + w2) 111) <|
b1 (fX11_step M w1 w2) fun x3 =>
some ((M.1 96 (ix (18 + w2))) + (w3 * x3))
def fX11_power_L5 (w1 : Int32) (w0 : Int32) : (Int64 × Int32) → Option ((Int64 × Int32) ⊕ (Int64)) :=
u2 (fun (y1 : Int64) (x2 : Int32) =>
(if w1 ≤ x2 then
some (Sum.inr y1)
else
bd (y1 * w0.toInt64) fun y4 =>
bd (x2 + 1) fun x5 =>
some (Sum.inl (y4, x5))))
def fX11_power (w0 : Int32) (w1 : Int32) : Option (Int64) :=
b1 (itr (fX11_power_L5 w1 w0) 1000 (1, 0)) fun y7 =>
some y7
def fX11_valueAt_L6 (M : Mm) (w1 : Int32) (w2 : Int32) (w3 : Int32) (w4 : Int32) : (Int64 × Int32) → Option ((Int64 × Int32) ⊕ (Int64)) :=
u2 (fun (y1 : Int64) (x2 : Int32) =>
(if (M.1 96 1) ≤ x2 then
some (Sum.inr y1)
else
bd (21 + (4 * x2)) fun x4 =>
bd (fun (x7 : Int32) =>
bd (fun (y10 : Int64) =>
bd (y1 + y10) fun y11 =>
bd (x2 + 1) fun x12 =>
some (Sum.inl (y11, x12))) fun k8 =>
(if x7 = 0 then
k8 0
else
gd (inb x4 111) <|
gd (inb (x4 + 1) 111) <|
b1 (fX11_power w1 (M.1 96 (ix (x4 + 1)))) fun y17 =>
gd (inb (x4 + 2) 111) <|
b1 (fX11_power w2 (M.1 96 (ix (x4 + 2)))) fun y20 =>
gd (inb (x4 + 3) 111) <|
b1 (fX11_power w3 (M.1 96 (ix (x4 + 3)))) fun y23 =>
k8 (((((M.1 96 (ix x4)).toInt64) * y17) * y20) * y23))) fun k5 =>
bd (fun (_ : Unit) =>
k5 1) fun k24 =>
(if w4 = 0 then
k24 ()
else
gd (inb (x4 + 1) 111) <|
gd (inb (x4 + 2) 111) <|
gd (inb (x4 + 3) 111) <|
(if 2 < (((M.1 96 (ix (x4 + 1))) + (M.1 96 (ix (x4 + 2)))) + (M.1 96 (ix (x4 + 3)))) then
k5 0
else
k24 ()))))
def fX11_valueAt (M : Mm) (w1 : Int32) (w2 : Int32) (w3 : Int32) (w4 : Int32) : Option (Int64) :=
b1 (itr (fX11_valueAt_L6 M w1 w2 w3 w4) 1000 (0, 0)) fun y32 =>
some y32
def fX11_trialValue (M : Mm) (w1 : Int32) (w2 : Int32) (w3 : Int32) : Option (Int64) :=
b1 (fX11_trialAt M w1 0 w2) fun x2 =>
b1 (fX11_trialAt M w1 1 w2) fun x4 =>
b1 (fX11_trialAt M w1 2 w2) fun x6 =>
b1 (fX11_valueAt M x2 x4 x6 w3) fun y8 =>
some y8
def fX11_isAhead (M : Mm) (w1 : Int32) (w2 : Int32) (w3 : Int32) : Option (Int32) :=
(if (M.1 96 4) = 2 then
b1 (fX11_trialValue M w1 w3 1) fun y5 =>
b1 (fX11_trialValue M w2 w3 1) fun y7 =>
(if 0 ≤ (lg_cmp y5 y7) then
some 0
else
some 1)
else
(if (M.1 96 4) = 1 then
(if w1 = (M.1 96 9) then
some 1
else
some 0)
else
some 0))
def fX11_isTrialAllowed (M : Mm) (w1 : Int32) (w2 : Int32) : Option (Int32) :=
b1 (fX11_trialAt M w1 0 w2) fun x2 =>
b1 (fX11_trialAt M w1 1 w2) fun x4 =>
b1 (fX11_trialAt M w1 2 w2) fun x6 =>
b1 (fX11_isAllowed M x2 x4 x6) fun x8 =>
gd (x8 = 0 ∨ x8 = 1) <|
some x8
def fX11_layRow_L34 (M5 : Mm) (x1 : Int32) (x3 : Int32) : (Int32 × Int32) → Option ((Int32 × Int32) ⊕ (Int32)) :=
u2 (fun (x7 : Int32) (x8 : Int32) =>
(if (M5.1 96 2) ≤ x8 then
some (Sum.inr x7)
else
bd (fun (x12 : Int32) =>
bd (fun (x15 : Int32) =>
bd (x8 + 1) fun x16 =>
some (Sum.inl (x15, x16))) fun k13 =>
bd (fun (_ : Unit) =>
k13 x7) fun k17 =>
(if x12 = 0 then
k17 ()
else
bd (fun (_ : Unit) =>
k13 x8) fun k20 =>
(if x7 < 0 then
k20 ()
else
b1 (fX11_isAhead M5 x8 x7 x1) fun x24 =>
(if x24 = 0 then
k17 ()
else
k20 ())))) fun k10 =>
bd (fun (_ : Unit) =>
k10 0) fun k26 =>
(if ((x3 >>> (x8 &&& 31)) &&& 1) = 0 then
b1 (fX11_isTrialAllowed M5 x8 x1) fun x30 =>
(if x30 = 0 then
k26 ()
else
k10 1)
else
k26 ())))
def fX11_layRow_L18 (x1 : Int32) : (Int32 × Int32 × Mm) → Option ((Int32 × Int32 × Mm) ⊕ (Mm)) :=
u3 (fun (x3 : Int32) (x4 : Int32) (M5 : Mm) =>
(if (M5.1 96 2) ≤ x4 then
some (Sum.inr M5)
else
b1 (itr (fX11_layRow_L34 M5 x1 x3) 1000 ((-1), 0)) fun x33 =>
bd (fun (x36 : Int32) (M37 : Mm) =>
bd (x4 + 1) fun x38 =>
some (Sum.inl (x36, x38, M37))) fun k34 =>
(if x33 < 0 then
k34 x3 M5
else
bd (x3 ||| (1 <<< (x33 &&& 31))) fun x40 =>
gd (inb (M5.1 95 8) 8) <|
bd (stI M5 100 (ix (M5.1 95 8)) x33) fun M42 =>
bd (stI M42 95 8 ((M42.1 95 8) + 1)) fun M43 =>
k34 x40 M43)))
def fX11_layRow (M : Mm) : Option (Mm) :=
bd (1 <<< ((M.1 96 3) &&& 31)) fun x1 =>
bd (stI M 95 8 0) fun M2 =>
b1 (itr (fX11_layRow_L18 x1) 1000 (0, 0, M2)) fun M46 =>
some M46
def fX11_valueHere (M : Mm) : Option (Int64) :=
b1 (fX11_valueAt M (M.1 96 18) (M.1 96 19) (M.1 96 20) 0) fun y2 =>
some y2
def fX11_leave_L3 : (Int32 × Mm) → Option ((Int32 × Mm) ⊕ (Mm)) :=
u2 (fun (x1 : Int32) (M2 : Mm) =>
(if x1 < 3 then
some (Sum.inr M2)
else
gd (inb ((93 + x1) - 3) 111) <|
gd (inb (93 + x1) 111) <|
bd (stI M2 96 (ix (93 + x1)) (M2.1 96 (ix ((93 + x1) - 3)))) fun M6 =>
bd (x1 + (-1)) fun x7 =>
some (Sum.inl (x7, M6))))
def fX11_leave_L36 : (Int32 × Mm) → Option ((Int32 × Mm) ⊕ (Mm)) :=
u2 (fun (x10 : Int32) (M11 : Mm) =>
(if 3 ≤ x10 then
some (Sum.inr M11)
else
gd (inb (18 + x10) 111) <|
gd (inb (93 + x10) 111) <|
bd (stI M11 96 (ix (93 + x10)) (M11.1 96 (ix (18 + x10)))) fun M15 =>
bd (x10 + 1) fun x16 =>
some (Sum.inl (x16, M15))))
def fX11_leave (M : Mm) : Option (Mm) :=
b1 (itr (fX11_leave_L3) 1000 (17, M)) fun M9 =>
b1 (itr (fX11_leave_L36) 1000 (0, M9)) fun M18 =>
(if 6 ≤ (M18.1 96 10) then
bd (stI M18 96 10 ((M18.1 96 10) + 0)) fun M20 =>
some M20
else
bd (stI M18 96 10 ((M18.1 96 10) + 1)) fun M21 =>
some M21)
def fX11_take (M : Mm) (w1 : Int32) (w2 : Int32) : Option (Mm) :=
b1 (fX11_leave M) fun M2 =>
b1 (fX11_trialAt M2 w1 0 w2) fun x4 =>
b1 (fX11_trialAt M2 w1 1 w2) fun x6 =>
b1 (fX11_trialAt M2 w1 2 w2) fun x8 =>
b1 (fX11_putPlace M2 x4 x6 x8) fun M10 =>
bd (fun (x13 : Int32) =>
bd (stI M10 96 3 ((M10.1 96 3) + x13)) fun M14 =>
bd (stI M14 96 7 ((M14.1 96 7) + 1)) fun M15 =>
bd (stI M15 96 9 w1) fun M16 =>
gd (inb ((61 + (4 * w1)) + 3) 111) <|
bd (stI M16 96 (ix ((61 + (4 * w1)) + 3)) ((M16.1 96 (ix ((61 + (4 * w1)) + 3))) + 1)) fun M18 =>
some M18) fun k11 =>
(if 4 ≤ (M10.1 96 3) then
k11 0
else
k11 1)
def fX11_pollOnce_L24 (x1 : Int32) : (Int64 × Int32 × Int32 × Mm) → Option ((Int64 × Int32 × Int32 × Mm) ⊕ (Int32 × Mm)) :=
u4 (fun (y6 : Int64) (x7 : Int32) (x8 : Int32) (M9 : Mm) =>
(if (M9.1 95 8) ≤ x8 then
some (Sum.inr (x7, M9))
else
bd (fun (_ : Unit) =>
gd (inb x8 8) <|
b1 (fX11_trialValue M9 (M9.1 100 (ix x8)) x1 0) fun y15 =>
bd (stI M9 96 8 ((M9.1 96 8) + 1)) fun M16 =>
bd (fun (y19 : Int64) (x20 : Int32) =>
bd (x8 + 1) fun x21 =>
some (Sum.inl (y19, x20, x21, M16))) fun k17 =>
(if 0 ≤ (lg_cmp y15 y6) then
k17 y6 x7
else
bd (M16.1 100 (ix x8)) fun x23 =>
k17 y15 x23)) fun k11 =>
(if x7 < 0 then
k11 ()
else
(if (M9.1 96 5) = 1 then
k11 ()
else
some (Sum.inr (x7, M9))))))
def fX11_pollOnce (M : Mm) : Option (Int32 × Mm) :=
bd (1 <<< ((M.1 96 3) &&& 31)) fun x1 =>
b1 (fX11_layRow M) fun M3 =>
b1 (fX11_valueHere M3) fun y5 =>
b2 (itr (fX11_pollOnce_L24 x1) 1000 (y5, (-1), 0, M3)) fun x27 M28 =>
bd (stI M28 96 6 ((M28.1 96 6) + 1)) fun M29 =>
bd (fun (x32 : Int32) =>
bd (stI M29 96 11 x32) fun M33 =>
(if x27 < 0 then
(if (M33.1 96 3) ≤ 0 then
bd (stI M33 96 3 ((M33.1 96 3) - 0)) fun M36 =>
some (x27, M36)
else
bd (stI M33 96 3 ((M33.1 96 3) - 1)) fun M37 =>
some (x27, M37))
else
b1 (fX11_take M33 x27 x1) fun M39 =>
some (x27, M39))) fun k30 =>
bd (fun (_ : Unit) =>
k30 0) fun k40 =>
(if 0 ≤ x27 then
k40 ()
else
(if x1 = 1 then
k30 1
else
k40 ()))
def fX11_poll (M : Mm) : Option (Int32 × Mm) :=
b1 (fX11_canPoll M) fun x2 =>
(if x2 = 0 then
some ((-1000002), M)
else
b1 (fX11_record M) fun M5 =>
b2 (fX11_pollOnce M5) fun x7 M8 =>
some (x7, M8))
def fX10_run_L39 (w1 : Int32) : (Int32 × Mm) → Option ((Int32 × Mm) ⊕ (Int32 × Mm)) :=
u2 (fun (x9 : Int32) (M10 : Mm) =>
b2 (fX6_pollOnce M10) fun x12 M13 =>
bd (x9 + 1) fun x14 =>
(if w1 ≤ x14 then
some (Sum.inr (x14, M13))
else
(if (M13.1 11 8) = 0 then
some (Sum.inl (x14, M13))
else
some (Sum.inr (x14, M13)))))
def fX10_run (M : Mm) (w1 : Int32) : Option (Int32 × Mm) :=
b1 (fX10_within w1 1 60) fun x2 =>
(if x2 = 0 then
some ((-1000001), M)
else
b1 (fX6_canPoll M) fun x5 =>
(if x5 = 0 then
some ((-1000002), M)
else
b1 (fX2_push M) fun M8 =>
b2 (itr (fX10_run_L39 w1) 1000 (0, M8)) fun x18 M19 =>
some (x18, M19)))
def fX11_run_L31 (w1 : Int32) : (Int32 × Int32 × Mm) → Option ((Int32 × Int32 × Mm) ⊕ (Int32 × Mm)) :=
u3 (fun (x9 : Int32) (x10 : Int32) (M11 : Mm) =>
(if x10 = 0 then
some (Sum.inr (x9, M11))
else
(if w1 ≤ x9 then
some (Sum.inr (x9, M11))
else
b2 (fX11_pollOnce M11) fun x15 M16 =>
bd (x9 + 1) fun x17 =>
bd (fun (x20 : Int32) =>
some (Sum.inl (x17, x20, M16))) fun k18 =>
(if (M16.1 96 11) = 0 then
k18 1
else
k18 0))))
def fX11_run (M : Mm) (w1 : Int32) : Option (Int32 × Mm) :=
b1 (fX11_in w1 1 60) fun x2 =>
(if x2 = 0 then
some ((-1000001), M)
else
b1 (fX11_canPoll M) fun x5 =>
(if x5 = 0 then
some ((-1000002), M)
else
b1 (fX11_record M) fun M8 =>
b2 (itr (fX11_run_L31 w1) 1000 (0, 1, M8)) fun x23 M24 =>
some (x23, M24)))
def fX10_value (M : Mm) (w1 : Int32) (w2 : Int32) (w3 : Int32) (w4 : Int32) : Option (Int64) :=
b1 (fX6_fit M w1 w2 w3 (-50) 50) fun x2 =>
(if x2 = 0 then
some (-1000001)
else
b1 (fX10_within w4 0 1) fun x5 =>
(if x5 = 0 then
some (-1000001)
else
bd (fun (x9 : Int32) =>
b1 (fX7_sumAt M w1 w2 w3 x9) fun y11 =>
some (20000000000 + y11)) fun k7 =>
(if w4 = 1 then
k7 2
else
k7 4)))
def fX11_value (M : Mm) (w1 : Int32) (w2 : Int32) (w3 : Int32) (w4 : Int32) : Option (Int64) :=
b1 (fX11_arePlace M w1 w2 w3) fun x2 =>
(if x2 = 0 then
some (-1000001)
else
b1 (fX11_in w4 0 1) fun x5 =>
(if x5 = 0 then
some (-1000001)
else
(if w4 = 1 then
b1 (fX11_valueAt M w1 w2 w3 1) fun y11 =>
some (y11 + 20000000000)
else
b1 (fX11_valueAt M w1 w2 w3 0) fun y9 =>
some (y9 + 20000000000))))
def fX10_termOf (M : Mm) (w1 : Int32) (w2 : Int32) : Option (Int32) :=
(if w1 < 0 then
some (-1000001)
else
b1 (fX10_within w2 0 3) fun x3 =>
(if x3 = 0 then
some (-1000001)
else
(if w1 < (M.1 2 0) then
(if w2 = 0 then
gd (inb w1 10) <|
some (M.1 3 (ix w1))
else
gd (inb (((3 * w1) + w2) - 1) 30) <|
some (M.1 4 (ix (((3 * w1) + w2) - 1))))
else
some (-1000004))))
def fX11_termOf (M : Mm) (w1 : Int32) (w2 : Int32) : Option (Int32) :=
(if w1 < 0 then
some (-1000001)
else
b1 (fX11_in w2 0 3) fun x3 =>
(if x3 = 0 then
some (-1000001)
else
(if (M.1 96 1) ≤ w1 then
some (-1000004)
else
gd (inb ((21 + (4 * w1)) + w2) 111) <|
some (M.1 96 (ix ((21 + (4 * w1)) + w2))))))
def fX10_directionOf (M : Mm) (w1 : Int32) (w2 : Int32) : Option (Int32) :=
(if w1 < 0 then
some (-1000001)
else
b1 (fX10_within w2 0 3) fun x3 =>
(if x3 = 0 then
some (-1000001)
else
(if w1 < (M.1 8 0) then
(if w2 = 3 then
gd (inb w1 8) <|
some (M.1 10 (ix w1))
else
gd (inb ((3 * w1) + w2) 24) <|
some (M.1 9 (ix ((3 * w1) + w2))))
else
some (-1000004))))
def fX11_directionOf (M : Mm) (w1 : Int32) (w2 : Int32) : Option (Int32) :=
(if w1 < 0 then
some (-1000001)
else
b1 (fX11_in w2 0 3) fun x3 =>
(if x3 = 0 then
some (-1000001)
else
(if (M.1 96 2) ≤ w1 then
some (-1000004)
else
gd (inb ((61 + (4 * w1)) + w2) 111) <|
some (M.1 96 (ix ((61 + (4 * w1)) + w2))))))
def fX10_searchOf (M : Mm) (w1 : Int32) : Option (Int32) :=
(if w1 = 0 then
gd (inb w1 3) <|
some (M.1 12 (ix w1))
else
(if w1 = 1 then
gd (inb w1 3) <|
some (M.1 12 (ix w1))
else
(if w1 = 2 then
gd (inb w1 3) <|
some (M.1 12 (ix w1))
else
(if w1 = 3 then
some (M.1 11 1)
else
(if w1 = 4 then
some (M.1 11 2)
else
(if w1 = 5 then
some (M.1 11 3)
else
(if w1 = 6 then
some (M.1 11 4)
else
(if w1 = 7 then
(if (M.1 11 5) = (-1) then
some (-1000004)
else
some (M.1 11 5))
else
(if w1 = 8 then
some (M.1 11 6)
else
(if w1 = 9 then
b1 (fX10_oneIf (M.1 11 8)) fun x16 =>
some x16
else
some (-1000001)))))))))))
def fX11_searchOf (M : Mm) (w1 : Int32) : Option (Int32) :=
b1 (fX11_in w1 0 9) fun x2 =>
(if x2 = 0 then
some (-1000001)
else
(if w1 = 3 then
some (1 <<< ((M.1 96 3) &&& 31))
else
(if w1 = 4 then
some (M.1 96 6)
else
(if w1 = 5 then
some (M.1 96 7)
else
(if w1 = 6 then
some (M.1 96 8)
else
(if w1 = 7 then
(if 0 ≤ (M.1 96 9) then
some (M.1 96 9)
else
some (-1000004))
else
(if w1 = 8 then
some (M.1 96 10)
else
(if w1 = 9 then
some (M.1 96 11)
else
gd (inb (18 + w1) 111) <|
some (M.1 96 (ix (18 + w1)))))))))))
def fX10_leftAt (M : Mm) (w1 : Int32) (w2 : Int32) : Option (Int32) :=
(if w1 < 0 then
some (-1000001)
else
b1 (fX6_hasVariable M w2) fun x3 =>
(if x3 = 0 then
some (-1000001)
else
(if w1 < (M.1 11 6) then
gd (inb ((3 * w1) + w2) 18) <|
some (M.1 13 (ix ((3 * w1) + w2)))
else
some (-1000004))))
def fX11_leftAt (M : Mm) (w1 : Int32) (w2 : Int32) : Option (Int32) :=
(if w1 < 0 then
some (-1000001)
else
b1 (fX11_isVariable M w2) fun x3 =>
(if x3 = 0 then
some (-1000001)
else
(if (M.1 96 10) ≤ w1 then
some (-1000004)
else
gd (inb ((93 + (3 * w1)) + w2) 111) <|
some (M.1 96 (ix ((93 + (3 * w1)) + w2))))))
def fX10_boundOf (M : Mm) (w1 : Int32) : Option (Int32) :=
b1 (fX10_within w1 10 (9 + (M.1 1 0))) fun x2 =>
(if x2 = 0 then
b1 (fX10_within w1 20 (19 + (M.1 1 0))) fun x5 =>
(if x5 = 0 then
some (-1000001)
else
gd (inb (w1 - 20) 3) <|
some (M.1 7 (ix (w1 - 20))))
else
gd (inb (w1 - 10) 3) <|
some (M.1 6 (ix (w1 - 10))))
def fX10_count (M : Mm) (w1 : Int32) : Option (Int32) :=
(if w1 = 0 then
some (M.1 1 0)
else
(if w1 = 1 then
some (M.1 2 0)
else
(if w1 = 2 then
some (M.1 8 0)
else
(if w1 = 3 then
some (M.1 1 1)
else
(if w1 = 4 then
some (M.1 1 2)
else
(if w1 = 5 then
some (M.1 14 0)
else
(if w1 = 6 then
some (M.1 80 0)
else
(if w1 = 7 then
b1 (fX10_oneIf (M.1 0 3)) fun x10 =>
some x10
else
b1 (fX10_boundOf M w1) fun x12 =>
some x12))))))))
def fX11_count (M : Mm) (w1 : Int32) : Option (Int32) :=
(if w1 < 10 then
(if w1 = 0 then
some (M.1 96 0)
else
(if w1 = 1 then
some (M.1 96 1)
else
(if w1 = 2 then
some (M.1 96 2)
else
(if w1 = 3 then
some (M.1 96 4)
else
(if w1 = 4 then
some (M.1 96 5)
else
(if w1 = 5 then
some (M.1 95 3)
else
(if w1 = 6 then
some (M.1 95 6)
else
(if w1 = 7 then
(if (M.1 95 4) = 0 then
some 0
else
some 1)
else
some (-1000001)))))))))
else
bd (fun (x13 : Int32) =>
bd (fun (x16 : Int32) =>
bd (w1 - x16) fun x17 =>
b1 (fX11_isVariable M x17) fun x19 =>
(if x19 = 0 then
some (-1000001)
else
(if x13 = 0 then
gd (inb (12 + x17) 111) <|
some (M.1 96 (ix (12 + x17)))
else
gd (inb (15 + x17) 111) <|
some (M.1 96 (ix (15 + x17)))))) fun k14 =>
(if x13 = 0 then
k14 10
else
k14 20)) fun k11 =>
(if w1 < 20 then
k11 0
else
k11 1))
def fX9_isBetter (M : Mm) (w1 : Int32) : Option (Int32) :=
gd (inb w1 8) <|
(if 0 ≤ (lg_cmp (M.2 89 (ix w1)) (M.2 86 4)) then
some 0
else
some 1)
def fX10_trialOf (M : Mm) (w1 : Int32) (w2 : Int32) : Option (Int32 × Mm) :=
(if w1 < 0 then
some ((-1000001), M)
else
b1 (fX10_within w2 0 1) fun x3 =>
(if x3 = 0 then
some ((-1000001), M)
else
b1 (fX9_gather M (M.1 11 1)) fun M6 =>
(if w1 < (M6.1 86 0) then
(if w2 = 0 then
gd (inb w1 8) <|
some (M6.1 87 (ix w1), M6)
else
b1 (fX9_isBetter M6 w1) fun x10 =>
b1 (fX10_oneIf x10) fun x12 =>
some (x12, M6))
else
some ((-1000004), M6))))
def fX11_trialOf (M : Mm) (w1 : Int32) (w2 : Int32) : Option (Int32 × Mm) :=
(if w1 < 0 then
some ((-1000001), M)
else
b1 (fX11_in w2 0 1) fun x3 =>
(if x3 = 0 then
some ((-1000001), M)
else
b1 (fX11_layRow M) fun M6 =>
(if w1 < (M6.1 95 8) then
gd (inb w1 8) <|
b1 (fX11_trialValue M6 (M6.1 100 (ix w1)) (1 <<< ((M6.1 96 3) &&& 31)) 0) fun y10 =>
b1 (fX11_valueHere M6) fun y12 =>
bd (fun (x15 : Int32) =>
(if w2 = 0 then
some (M6.1 100 (ix w1), M6)
else
(if x15 = 0 then
some (0, M6)
else
some (1, M6)))) fun k13 =>
(if 0 ≤ (lg_cmp y10 y12) then
k13 0
else
k13 1)
else
some ((-1000004), M6))))
def fX5_addAlong_L2 (w1 : Int32) (w2 : Int32) : (Int32 × Mm) → Option ((Int32 × Mm) ⊕ (Mm)) :=
u2 (fun (x1 : Int32) (M2 : Mm) =>
(if 3 ≤ x1 then
some (Sum.inr M2)
else
bd (fun (x6 : Int32) =>
gd (inb ((3 * (M2.1 92 0)) + x1) 42) <|
bd (stI M2 93 (ix ((3 * (M2.1 92 0)) + x1)) x6) fun M8 =>
bd (x1 + 1) fun x9 =>
some (Sum.inl (x9, M8))) fun k4 =>
(if x1 = w1 then
k4 w2
else
k4 0)))
def fX5_addAlong (M : Mm) (w1 : Int32) (w2 : Int32) : Option (Mm) :=
b1 (itr (fX5_addAlong_L2 w1 w2) 1000 (0, M)) fun M12 =>
bd (stI M12 92 0 ((M12.1 92 0) + 1)) fun M13 =>
some M13
def fX5_fill_L29 : (Int32 × Mm) → Option ((Int32 × Mm) ⊕ (Mm)) :=
u2 (fun (x4 : Int32) (M5 : Mm) =>
(if 3 ≤ x4 then
some (Sum.inr M5)
else
b1 (fX5_addAlong M5 x4 1) fun M8 =>
b1 (fX5_addAlong M8 x4 (-1)) fun M10 =>
bd (x4 + 1) fun x11 =>
some (Sum.inl (x11, M10))))
def fX5_fill (M : Mm) (w2 : Int32) : Option (Mm) :=
bd (stI M 92 0 (M.1 8 0)) fun M1 =>
gd (0 ≤ 3 * (M1.1 92 0) ∧ 0 + ix (3 * (M1.1 92 0)) ≤ 24 ∧ 0 + ix (3 * (M1.1 92 0)) ≤ 42) <|
bd (cpI M1 9 0 93 0 (ix (3 * (M1.1 92 0)))) fun M2 =>
b1 (itr (fX5_fill_L29) 1000 (w2, M2)) fun M13 =>
some M13
def fX5_findNormal (M : Mm) (w1 : Int32) (w2 : Int32) : Option (Int32 × Mm) :=
gd (inb (w1 + 1) 42) <|
gd (inb (w2 + 2) 42) <|
gd (inb (w1 + 2) 42) <|
gd (inb (w2 + 1) 42) <|
bd (stI M 94 0 (((M.1 93 (ix (w1 + 1))) * (M.1 93 (ix (w2 + 2)))) - ((M.1 93 (ix (w1 + 2))) * (M.1 93 (ix (w2 + 1)))))) fun M5 =>
gd (inb w2 42) <|
gd (inb w1 42) <|
bd (stI M5 94 1 (((M5.1 93 (ix (w1 + 2))) * (M5.1 93 (ix w2))) - ((M5.1 93 (ix w1)) * (M5.1 93 (ix (w2 + 2)))))) fun M8 =>
bd (stI M8 94 2 (((M8.1 93 (ix w1)) * (M8.1 93 (ix (w2 + 1)))) - ((M8.1 93 (ix (w1 + 1))) * (M8.1 93 (ix w2))))) fun M9 =>
(if (M9.1 94 0) = 0 then
(if (M9.1 94 1) = 0 then
(if (M9.1 94 2) = 0 then
some (0, M9)
else
some (1, M9))
else
some (1, M9))
else
some (1, M9))
def fX5_hasRowsOnBothSides_L6 (M : Mm) : (Int32 × Int32 × Int32) → Option ((Int32 × Int32 × Int32) ⊕ (Int32 × Int32)) :=
u3 (fun (x1 : Int32) (x2 : Int32) (x3 : Int32) =>
(if (M.1 92 0) ≤ x3 then
some (Sum.inr (x1, x2))
else
bd (3 * x3) fun x5 =>
gd (inb x5 42) <|
gd (inb (x5 + 1) 42) <|
gd (inb (x5 + 2) 42) <|
bd ((((M.1 94 0) * (M.1 93 (ix x5))) + ((M.1 94 1) * (M.1 93 (ix (x5 + 1))))) + ((M.1 94 2) * (M.1 93 (ix (x5 + 2))))) fun x9 =>
bd (fun (x12 : Int32) =>
bd (fun (x15 : Int32) =>
bd (x3 + 1) fun x16 =>
some (Sum.inl (x12, x15, x16))) fun k13 =>
bd (fun (_ : Unit) =>
k13 1) fun k17 =>
(if x2 = 0 then
(if 0 ≤ x9 then
k13 0
else
k17 ())
else
k17 ())) fun k10 =>
bd (fun (_ : Unit) =>
k10 1) fun k21 =>
(if x1 = 0 then
(if x9 ≤ 0 then
k10 0
else
k21 ())
else
k21 ())))
def fX5_hasRowsOnBothSides (M : Mm) : Option (Int32) :=
b2 (itr (fX5_hasRowsOnBothSides_L6 M) 1000 (0, 0, 0)) fun x26 x27 =>
(if x26 = 0 then
some 0
else
(if x27 = 0 then
some 0
else
some 1))
def fX5_isWhole_L26 (x4 : Int32) : (Int32 × Int32 × Mm) → Option ((Int32 × Int32 × Mm) ⊕ ((Mm) ⊕ (Int32 × Mm))) :=
u3 (fun (x8 : Int32) (x9 : Int32) (M10 : Mm) =>
(if (M10.1 92 0) ≤ x9 then
some (Sum.inr (Sum.inr (x8, M10)))
else
b2 (fX5_findNormal M10 (3 * x4) (3 * x9)) fun x13 M14 =>
bd (fun (x17 : Int32) =>
bd (x9 + 1) fun x18 =>
some (Sum.inl (x17, x18, M14))) fun k15 =>
(if x13 = 0 then
k15 x8
else
b1 (fX5_hasRowsOnBothSides M14) fun x21 =>
(if x21 = 0 then
some (Sum.inr (Sum.inl M14))
else
k15 1))))
def fX5_isWhole_L11 : (Int32 × Int32 × Mm) → Option ((Int32 × Int32 × Mm) ⊕ ((Mm) ⊕ (Int32 × Mm))) :=
u3 (fun (x3 : Int32) (x4 : Int32) (M5 : Mm) =>
(if (M5.1 92 0) ≤ x4 then
some (Sum.inr (Sum.inr (x3, M5)))
else
bd (x4 + 1) fun x7 =>
bs (itr (fX5_isWhole_L26 x4) 1000 (x3, x7, M5)) (fun (M24 : Mm) =>
some (Sum.inr (Sum.inl M24))) (u2 (fun (x25 : Int32) (M26 : Mm) =>
bd (x4 + 1) fun x27 =>
some (Sum.inl (x25, x27, M26))))))
def fX5_isWhole (M : Mm) (w2 : Int32) : Option (Int32 × Mm) :=
b1 (fX5_fill M w2) fun M2 =>
bs (itr (fX5_isWhole_L11) 1000 (0, 0, M2)) (fun (M30 : Mm) =>
some (0, M30)) (u2 (fun (x31 : Int32) (M32 : Mm) =>
gd (x31 = 0 ∨ x31 = 1) <|
some (x31, M32)))
def fX10_spans (M : Mm) : Option (Int32 × Mm) :=
b2 (fX5_isWhole M (M.1 1 0)) fun x2 M3 =>
b1 (fX10_oneIf x2) fun x5 =>
some (x5, M3)
def fX11_isBarred_L6 (M : Mm) (w1 : Int32) (w2 : Int32) (w3 : Int32) : (Int32 × Int32) → Option ((Int32 × Int32) ⊕ (Int32)) :=
u2 (fun (x1 : Int32) (x2 : Int32) =>
(if (M.1 96 2) ≤ x2 then
some (Sum.inr x1)
else
bd (fun (x6 : Int32) =>
bd (x2 + 1) fun x7 =>
some (Sum.inl (x6, x7))) fun k4 =>
bd (fun (_ : Unit) =>
k4 0) fun k8 =>
(if x1 = 0 then
k8 ()
else
b1 (fX11_step M x2 0) fun x12 =>
b1 (fX11_step M x2 1) fun x14 =>
b1 (fX11_step M x2 2) fun x16 =>
(if 0 < (((w1 * x12) + (w2 * x14)) + (w3 * x16)) then
k8 ()
else
k4 1))))
def fX11_isBarred (M : Mm) (w1 : Int32) (w2 : Int32) (w3 : Int32) : Option (Int32) :=
b1 (itr (fX11_isBarred_L6 M w1 w2 w3) 1000 (1, 0)) fun x19 =>
gd (x19 = 0 ∨ x19 = 1) <|
some x19
def fX11_isBarredBoth (M : Mm) (w1 : Int32) (w2 : Int32) (w3 : Int32) : Option (Int32) :=
b1 (fX11_isBarred M w1 w2 w3) fun x2 =>
(if x2 = 0 then
b1 (fX11_isBarred M (-w1) (-w2) (-w3)) fun x5 =>
(if x5 = 0 then
some 0
else
some 1)
else
some 1)
def fX11_spanThree_L19 (x3 : Int32) (M : Mm) : (Int32 × Int32 × Int32) → Option ((Int32 × Int32 × Int32) ⊕ (Int32 × Int32)) :=
u3 (fun (x5 : Int32) (x6 : Int32) (x7 : Int32) =>
(if x3 ≤ x7 then
some (Sum.inr (x5, x6))
else
b1 (fX11_step M x3 1) fun x10 =>
b1 (fX11_step M x7 2) fun x12 =>
b1 (fX11_step M x3 2) fun x14 =>
b1 (fX11_step M x7 1) fun x16 =>
bd ((x10 * x12) - (x14 * x16)) fun x17 =>
b1 (fX11_step M x3 2) fun x19 =>
b1 (fX11_step M x7 0) fun x21 =>
b1 (fX11_step M x3 0) fun x23 =>
b1 (fX11_step M x7 2) fun x25 =>
bd ((x19 * x21) - (x23 * x25)) fun x26 =>
b1 (fX11_step M x3 0) fun x28 =>
b1 (fX11_step M x7 1) fun x30 =>
b1 (fX11_step M x3 1) fun x32 =>
b1 (fX11_step M x7 0) fun x34 =>
bd ((x28 * x30) - (x32 * x34)) fun x35 =>
bd (fun (x38 : Int32) =>
bd (fun (x41 : Int32) =>
bd (fun (x44 : Int32) =>
bd (x7 + 1) fun x45 =>
some (Sum.inl (x41, x44, x45))) fun k42 =>
bd (fun (_ : Unit) =>
k42 1) fun k46 =>
(if x6 = 0 then
bd (fun (_ : Unit) =>
k42 0) fun k49 =>
(if x38 = 0 then
k49 ()
else
b1 (fX11_isBarredBoth M x17 x26 x35) fun x53 =>
(if x53 = 0 then
k49 ()
else
k46 ()))
else
k46 ())) fun k39 =>
bd (fun (_ : Unit) =>
k39 1) fun k55 =>
(if x5 = 0 then
(if x38 = 0 then
k39 0
else
k55 ())
else
k55 ())) fun k36 =>
bd (fun (_ : Unit) =>
k36 1) fun k59 =>
(if x17 = 0 then
(if x26 = 0 then
(if x35 = 0 then
k36 0
else
k59 ())
else
k59 ())
else
k59 ())))
def fX11_spanThree_L6 (M : Mm) : (Int32 × Int32 × Int32) → Option ((Int32 × Int32 × Int32) ⊕ (Int32 × Int32)) :=
u3 (fun (x1 : Int32) (x2 : Int32) (x3 : Int32) =>
(if (M.1 96 2) ≤ x3 then
some (Sum.inr (x1, x2))
else
b2 (itr (fX11_spanThree_L19 x3 M) 1000 (x1, x2, 0)) fun x65 x66 =>
bd (x3 + 1) fun x67 =>
some (Sum.inl (x65, x66, x67))))
def fX11_spanThree (M : Mm) : Option (Int32) :=
b2 (itr (fX11_spanThree_L6 M) 1000 (0, 0, 0)) fun x70 x71 =>
(if x70 = 0 then
some 0
else
(if x71 = 0 then
some 1
else
some 0))
def fX11_spanTwo_L17 (M : Mm) : (Int32 × Int32) → Option ((Int32 × Int32) ⊕ (Int32)) :=
u2 (fun (x4 : Int32) (x5 : Int32) =>
(if (M.1 96 2) ≤ x5 then
some (Sum.inr x4)
else
bd (fun (x9 : Int32) =>
bd (x5 + 1) fun x10 =>
some (Sum.inl (x9, x10))) fun k7 =>
bd (fun (_ : Unit) =>
k7 1) fun k11 =>
(if x4 = 0 then
b1 (fX11_step M x5 1) fun x15 =>
b1 (fX11_step M x5 0) fun x17 =>
b1 (fX11_isBarredBoth M (-x15) x17 0) fun x19 =>
(if x19 = 0 then
k7 0
else
k11 ())
else
k11 ())))
def fX11_spanTwo (M : Mm) : Option (Int32) :=
bd (fun (x3 : Int32) =>
b1 (itr (fX11_spanTwo_L17 M) 1000 (x3, 0)) fun x22 =>
(if x22 = 0 then
some 1
else
some 0)) fun k1 =>
(if (M.1 96 2) = 0 then
k1 1
else
k1 0)
def fX11_spans (M : Mm) : Option (Int32) :=
(if (M.1 96 0) = 1 then
b1 (fX11_isBarredBoth M 1 0 0) fun x10 =>
(if x10 = 0 then
(if ((1 : Int32)) = 0 then
some 0
else
some 1)
else
(if ((0 : Int32)) = 0 then
some 0
else
some 1))
else
(if (M.1 96 0) = 2 then
b1 (fX11_spanTwo M) fun x7 =>
(if x7 = 0 then
some 0
else
some 1)
else
b1 (fX11_spanThree M) fun x4 =>
(if x4 = 0 then
some 0
else
some 1)))
def fX9_noneIsBetter_L2 (M : Mm) : (Int32) → Option ((Int32) ⊕ ((Unit) ⊕ (Unit))) :=
fun (x1 : Int32) =>
(if (M.1 86 0) ≤ x1 then
some (Sum.inr (Sum.inr ()))
else
b1 (fX9_isBetter M x1) fun x4 =>
(if x4 = 0 then
bd (x1 + 1) fun x6 =>
some (Sum.inl x6)
else
some (Sum.inr (Sum.inl ()))))
def fX9_noneIsBetter (M : Mm) : Option (Int32) :=
bs (itr (fX9_noneIsBetter_L2 M) 1000 0) (fun (_ : Unit) =>
some 0) (fun (_ : Unit) =>
some 1)
def fX10_stuck (M : Mm) (w1 : Int32) : Option (Int32 × Mm) :=
b1 (fX10_within w1 0 4) fun x2 =>
(if x2 = 0 then
some ((-1000001), M)
else
b1 (fX6_placeIsAllowed M) fun x5 =>
(if x5 = 0 then
some ((-1000002), M)
else
b1 (fX9_gather M (1 <<< (w1 &&& 31))) fun M8 =>
b1 (fX9_noneIsBetter M8) fun x10 =>
b1 (fX10_oneIf x10) fun x12 =>
some (x12, M8)))
def fX11_stuck_L26 (M : Mm) (w1 : Int32) : (Int32 × Int32) → Option ((Int32 × Int32) ⊕ (Int32)) :=
u2 (fun (x7 : Int32) (x8 : Int32) =>
(if (M.1 96 2) ≤ x8 then
some (Sum.inr x7)
else
bd (fun (x12 : Int32) =>
bd (x8 + 1) fun x13 =>
some (Sum.inl (x12, x13))) fun k10 =>
bd (fun (_ : Unit) =>
k10 0) fun k14 =>
(if x7 = 0 then
k14 ()
else
b1 (fX11_isTrialAllowed M x8 (1 <<< (w1 &&& 31))) fun x18 =>
bd (fun (_ : Unit) =>
k10 1) fun k19 =>
(if x18 = 0 then
k19 ()
else
b1 (fX11_trialValue M x8 (1 <<< (w1 &&& 31)) 0) fun y23 =>
b1 (fX11_valueHere M) fun y25 =>
(if (lg_cmp y23 y25) < 0 then
k14 ()
else
k19 ())))))
def fX11_stuck (M : Mm) (w1 : Int32) : Option (Int32) :=
b1 (fX11_in w1 0 4) fun x2 =>
(if x2 = 0 then
some (-1000001)
else
b1 (fX11_isHereAllowed M) fun x5 =>
(if x5 = 0 then
some (-1000002)
else
b1 (itr (fX11_stuck_L26 M w1) 1000 (1, 0)) fun x28 =>
(if x28 = 0 then
some 0
else
some 1)))
def fX3_consider (M : Mm) (w2 : Int32) (w3 : Int32) (w4 : Int32) : Option (Mm) :=
bd ((M.1 12 0) + (w2 * (M.1 11 1))) fun x1 =>
bd ((M.1 12 1) + (w3 * (M.1 11 1))) fun x2 =>
bd ((M.1 12 2) + (w4 * (M.1 11 1))) fun x3 =>
b1 (fX0_allow M x1 x2 x3) fun x5 =>
(if x5 = 0 then
some M
else
b1 (fX7_sumAt M x1 x2 x3 4) fun y8 =>
(if 0 ≤ (lg_cmp y8 (M.2 90 1)) then
some M
else
bd (stL M 90 1 y8) fun M10 =>
bd (stI M10 91 0 x1) fun M11 =>
bd (stI M11 91 1 x2) fun M12 =>
bd (stI M12 91 2 x3) fun M13 =>
some M13))
def fX3_findBest_L61 (x6 : Int32) (x9 : Int32) (x13 : Int32) : (Int32 × Mm) → Option ((Int32 × Mm) ⊕ (Mm)) :=
u2 (fun (x17 : Int32) (M18 : Mm) =>
(if x6 < x17 then
some (Sum.inr M18)
else
b1 (fX3_consider M18 x9 x13 x17) fun M21 =>
bd (x17 + 1) fun x22 =>
some (Sum.inl (x22, M21))))
def fX3_findBest_L50 (x3 : Int32) (x6 : Int32) (x9 : Int32) : (Int32 × Mm) → Option ((Int32 × Mm) ⊕ (Mm)) :=
u2 (fun (x13 : Int32) (M14 : Mm) =>
(if x3 < x13 then
some (Sum.inr M14)
else
bd (-x6) fun x16 =>
b1 (itr (fX3_findBest_L61 x6 x9 x13) 1000 (x16, M14)) fun M24 =>
bd (x13 + 1) fun x25 =>
some (Sum.inl (x25, M24))))
def fX3_findBest_L40 (w2 : Int32) (x3 : Int32) (x6 : Int32) : (Int32 × Mm) → Option ((Int32 × Mm) ⊕ (Mm)) :=
u2 (fun (x9 : Int32) (M10 : Mm) =>
(if w2 < x9 then
some (Sum.inr M10)
else
bd (-x3) fun x12 =>
b1 (itr (fX3_findBest_L50 x3 x6 x9) 1000 (x12, M10)) fun M28 =>
bd (x9 + 1) fun x29 =>
some (Sum.inl (x29, M28))))
def fX3_findBest (M : Mm) (w2 : Int32) : Option (Mm) :=
bd (fun (x3 : Int32) =>
bd (fun (x6 : Int32) =>
bd (stL M 90 1 20000000000) fun M7 =>
bd (-w2) fun x8 =>
b1 (itr (fX3_findBest_L40 w2 x3 x6) 1000 (x8, M7)) fun M32 =>
some M32) fun k4 =>
(if (M.1 1 0) ≤ 2 then
k4 0
else
k4 w2)) fun k1 =>
(if (M.1 1 0) ≤ 1 then
k1 0
else
k1 w2)
def fX10_around (M : Mm) (w1 : Int32) (w2 : Int32) : Option (Int32 × Mm) :=
b1 (fX10_within w1 0 3) fun x2 =>
(if x2 = 0 then
some ((-1000001), M)
else
b1 (fX10_within w2 0 2) fun x5 =>
(if x5 = 0 then
some ((-1000001), M)
else
b1 (fX6_placeIsAllowed M) fun x8 =>
(if x8 = 0 then
some ((-1000002), M)
else
b1 (fX3_findBest M w1) fun M11 =>
gd (inb w2 3) <|
some (M11.1 91 (ix w2), M11))))
def fX11_layAround_L73 (x7 : Int32) (x1 : Int32) (x11 : Int32) (x17 : Int32) : (Int64 × Int32 × Int32 × Mm) → Option ((Int64 × Int32 × Int32 × Mm) ⊕ (Int64 × Int32 × Mm)) :=
u4 (fun (y21 : Int64) (x22 : Int32) (x23 : Int32) (M24 : Mm) =>
(if x7 < x23 then
some (Sum.inr (y21, x22, M24))
else
bd ((M24.1 96 18) + (x1 * x11)) fun x26 =>
bd ((M24.1 96 19) + (x1 * x17)) fun x27 =>
bd ((M24.1 96 20) + (x1 * x23)) fun x28 =>
b1 (fX11_isAllowed M24 x26 x27 x28) fun x30 =>
bd (fun (y33 : Int64) (x34 : Int32) (M35 : Mm) =>
bd (x23 + 1) fun x36 =>
some (Sum.inl (y33, x34, x36, M35))) fun k31 =>
(if x30 = 0 then
k31 y21 x22 M24
else
bd (fun (_ : Unit) =>
b1 (fX11_valueAt M24 x26 x27 x28 0) fun y41 =>
bd (stI M24 101 0 x26) fun M42 =>
bd (stI M42 101 1 x27) fun M43 =>
bd (stI M43 101 2 x28) fun M44 =>
k31 y41 1 M44) fun k38 =>
(if x22 = 0 then
k38 ()
else
b1 (fX11_valueAt M24 x26 x27 x28 0) fun y47 =>
(if 0 ≤ (lg_cmp y47 y21) then
k31 y21 x22 M24
else
k38 ())))))
def fX11_layAround_L62 (x4 : Int32) (x7 : Int32) (x1 : Int32) (x11 : Int32) : (Int64 × Int32 × Int32 × Mm) → Option ((Int64 × Int32 × Int32 × Mm) ⊕ (Int64 × Int32 × Mm)) :=
u4 (fun (y15 : Int64) (x16 : Int32) (x17 : Int32) (M18 : Mm) =>
(if x4 < x17 then
some (Sum.inr (y15, x16, M18))
else
bd (-x7) fun x20 =>
b3 (itr (fX11_layAround_L73 x7 x1 x11 x17) 1000 (y15, x16, x20, M18)) fun y50 x51 M52 =>
bd (x17 + 1) fun x53 =>
some (Sum.inl (y50, x51, x53, M52))))
def fX11_layAround_L52 (w1 : Int32) (x4 : Int32) (x7 : Int32) (x1 : Int32) : (Int64 × Int32 × Int32 × Mm) → Option ((Int64 × Int32 × Int32 × Mm) ⊕ (Mm)) :=
u4 (fun (y9 : Int64) (x10 : Int32) (x11 : Int32) (M12 : Mm) =>
(if w1 < x11 then
some (Sum.inr M12)
else
bd (-x4) fun x14 =>
b3 (itr (fX11_layAround_L62 x4 x7 x1 x11) 1000 (y9, x10, x14, M12)) fun y56 x57 M58 =>
bd (x11 + 1) fun x59 =>
some (Sum.inl (y56, x57, x59, M58))))
def fX11_layAround (M : Mm) (w1 : Int32) : Option (Mm) :=
bd (1 <<< ((M.1 96 3) &&& 31)) fun x1 =>
bd (fun (x4 : Int32) =>
bd (fun (x7 : Int32) =>
bd (-w1) fun x8 =>
b1 (itr (fX11_layAround_L52 w1 x4 x7 x1) 1000 (0, 0, x8, M)) fun M62 =>
some M62) fun k5 =>
(if (M.1 96 0) ≤ 2 then
k5 0
else
k5 w1)) fun k2 =>
(if (M.1 96 0) ≤ 1 then
k2 0
else
k2 w1)
def fX11_around (M : Mm) (w1 : Int32) (w2 : Int32) : Option (Int32 × Mm) :=
b1 (fX11_in w1 0 3) fun x2 =>
(if x2 = 0 then
some ((-1000001), M)
else
b1 (fX11_in w2 0 2) fun x5 =>
(if x5 = 0 then
some ((-1000001), M)
else
b1 (fX11_isHereAllowed M) fun x8 =>
(if x8 = 0 then
some ((-1000002), M)
else
b1 (fX11_layAround M w1) fun M11 =>
gd (inb w2 3) <|
some (M11.1 101 (ix w2), M11))))
def fX10_keep (M : Mm) : Option (Int32 × Mm) :=
b1 (fX6_copyFrom 67 1 M) fun M2 =>
bd (stI M2 0 3 1) fun M3 =>
some (M3.1 2 0, M3)
def fX11_keep_L7 : (Int32 × Mm) → Option ((Int32 × Mm) ⊕ (Mm)) :=
u2 (fun (x2 : Int32) (M3 : Mm) =>
(if 111 ≤ x2 then
some (Sum.inr M3)
else
gd (inb x2 111) <|
bd (stI M3 98 (ix x2) (M3.1 96 (ix x2))) fun M6 =>
bd (x2 + 1) fun x7 =>
some (Sum.inl (x7, M6))))
def fX11_keep (M : Mm) : Option (Int32 × Mm) :=
bd (stI M 95 4 1) fun M1 =>
b1 (itr (fX11_keep_L7) 1000 (0, M1)) fun M9 =>
some (M9.1 96 1, M9)
def fX10_restore (M : Mm) : Option (Int32 × Mm) :=
(if (M.1 0 3) = 0 then
some ((-1000002), M)
else
b1 (fX2_push M) fun M3 =>
b1 (fX6_copyFrom 1 67 M3) fun M5 =>
some (M5.1 2 0, M5))
def fX11_restore_L16 : (Int32 × Mm) → Option ((Int32 × Mm) ⊕ (Mm)) :=
u2 (fun (x4 : Int32) (M5 : Mm) =>
(if 111 ≤ x4 then
some (Sum.inr M5)
else
gd (inb x4 111) <|
bd (stI M5 96 (ix x4) (M5.1 98 (ix x4))) fun M8 =>
bd (x4 + 1) fun x9 =>
some (Sum.inl (x9, M8))))
def fX11_restore (M : Mm) : Option (Int32 × Mm) :=
(if (M.1 95 4) = 0 then
some ((-1000002), M)
else
b1 (fX11_record M) fun M3 =>
b1 (itr (fX11_restore_L16) 1000 (0, M3)) fun M11 =>
some (M11.1 96 1, M11))
def fX2_giveBack (M : Mm) : Option (Mm) :=
b1 (fX6_copyFrom 1 15 M) fun M2 =>
b1 (fX6_copyFrom 15 28 M2) fun M4 =>
b1 (fX6_copyFrom 28 41 M4) fun M6 =>
b1 (fX6_copyFrom 41 54 M6) fun M8 =>
bd (stI M8 14 0 ((M8.1 14 0) - 1)) fun M9 =>
some M9
def fX10_undo (M : Mm) : Option (Int32 × Mm) :=
(if (M.1 14 0) = 0 then
some ((-1000002), M)
else
b1 (fX2_giveBack M) fun M3 =>
some (M3.1 14 0, M3))
def fX11_undo_L22 : (Int32 × Mm) → Option ((Int32 × Mm) ⊕ (Mm)) :=
u2 (fun (x3 : Int32) (M4 : Mm) =>
(if 111 ≤ x3 then
some (Sum.inr M4)
else
gd (inb (((M4.1 95 3) * 111) + x3) 444) <|
gd (inb x3 111) <|
bd (stI M4 96 (ix x3) (M4.1 97 (ix (((M4.1 95 3) * 111) + x3)))) fun M8 =>
bd (x3 + 1) fun x9 =>
some (Sum.inl (x9, M8))))
def fX11_undo (M : Mm) : Option (Int32 × Mm) :=
(if (M.1 95 3) = 0 then
some ((-1000002), M)
else
bd (stI M 95 3 ((M.1 95 3) - 1)) fun M2 =>
b1 (itr (fX11_undo_L22) 1000 (0, M2)) fun M11 =>
some (M11.1 95 3, M11))
def fX8_append (M : Mm) (w1 : Int32) : Option (Mm) :=
(if 60 ≤ (M.1 80 0) then
some M
else
gd (inb (M.1 80 0) 60) <|
bd (stI M 81 (ix (M.1 80 0)) w1) fun M3 =>
bd (stI M3 80 0 ((M3.1 80 0) + 1)) fun M4 =>
some M4)
def fX10_type (M : Mm) (w1 : Int32) : Option (Int32 × Mm) :=
b1 (fX10_within w1 32 126) fun x2 =>
(if x2 = 0 then
some ((-1000001), M)
else
(if (M.1 80 0) < 60 then
b1 (fX8_append M w1) fun M6 =>
some (M6.1 80 0, M6)
else
some ((-1000003), M)))
def fX11_type (M : Mm) (w1 : Int32) : Option (Int32 × Mm) :=
b1 (fX11_in w1 32 126) fun x2 =>
(if x2 = 0 then
some ((-1000001), M)
else
(if (M.1 95 6) = 60 then
some ((-1000003), M)
else
gd (inb (M.1 95 6) 60) <|
bd (stI M 99 (ix (M.1 95 6)) (i2c w1)) fun M6 =>
bd (stI M6 95 6 ((M6.1 95 6) + 1)) fun M7 =>
some (M7.1 95 6, M7)))
def fX10_clearText (M : Mm) : Option (Int32 × Mm) :=
bd (M.1 80 0) fun x1 =>
bd (stI M 80 0 0) fun M2 =>
some (x1, M2)
def fX11_clearText (M : Mm) : Option (Int32 × Mm) :=
bd (M.1 95 6) fun x1 =>
bd (stI M 95 6 0) fun M2 =>
some (x1, M2)
def fX8_beginTerm_L22 : (Int32 × Mm) → Option ((Int32 × Mm) ⊕ (Mm)) :=
u2 (fun (x6 : Int32) (M7 : Mm) =>
(if 3 ≤ x6 then
some (Sum.inr M7)
else
gd (inb x6 3) <|
bd (stI M7 85 (ix x6) 0) fun M10 =>
bd (x6 + 1) fun x11 =>
some (Sum.inl (x11, M10))))
def fX8_beginTerm (M : Mm) (w1 : Int32) : Option (Mm) :=
gd (w1 = 0 ∨ w1 = 1) <|
bd (stI M 80 5 w1) fun M2 =>
bd (stI M2 80 6 0) fun M3 =>
bd (stI M3 80 7 0) fun M4 =>
bd (stI M4 80 8 0) fun M5 =>
b1 (itr (fX8_beginTerm_L22) 1000 (0, M5)) fun M13 =>
some M13
def fX8_termIsEmpty (M : Mm) : Option (Int32) :=
(if (M.1 80 6) = 0 then
(if (M.1 80 8) = 0 then
some 1
else
some 0)
else
some 0)
def fX7_add_82 (M : Mm) (w1 : Int32) (w2 : Int32) (w3 : Int32) (w4 : Int32) : Option (Mm) :=
(if (M.1 82 0) < 10 then
gd (inb (M.1 82 0) 10) <|
bd (stI M 83 (ix (M.1 82 0)) w1) fun M3 =>
gd (inb (3 * (M3.1 82 0)) 30) <|
bd (stI M3 84 (ix (3 * (M3.1 82 0))) w2) fun M5 =>
gd (inb ((3 * (M5.1 82 0)) + 1) 30) <|
bd (stI M5 84 (ix ((3 * (M5.1 82 0)) + 1)) w3) fun M7 =>
gd (inb ((3 * (M7.1 82 0)) + 2) 30) <|
bd (stI M7 84 (ix ((3 * (M7.1 82 0)) + 2)) w4) fun M9 =>
bd (stI M9 82 0 ((M9.1 82 0) + 1)) fun M10 =>
some M10
else
some M)
def fX8_endTerm (M : Mm) : Option (Mm) :=
bd (fun (x3 : Int32) =>
bd (fun (x6 : Int32) =>
b1 (fX7_add_82 M x6 (M.1 85 0) (M.1 85 1) (M.1 85 2)) fun M8 =>
some M8) fun k4 =>
(if (M.1 80 5) = 0 then
k4 x3
else
k4 (-x3))) fun k1 =>
(if (M.1 80 6) = 0 then
k1 1
else
k1 (M.1 80 7))
def fX8_setFault (M : Mm) (w1 : Int32) (w2 : Int32) : Option (Mm) :=
bd (stI M 80 3 w1) fun M1 =>
bd (stI M1 80 4 w2) fun M2 =>
some M2
def fX8_scanEnd (M : Mm) : Option (Mm) :=
b1 (fX8_termIsEmpty M) fun x2 =>
(if x2 = 0 then
b1 (fX8_endTerm M) fun M5 =>
some M5
else
b1 (fX8_setFault M (M.1 80 0) 1) fun M7 =>
some M7)
def fX8_scanSign (M : Mm) (w1 : Int32) (w2 : Int32) : Option (Mm) :=
b1 (fX8_termIsEmpty M) fun x2 =>
(if x2 = 0 then
(if ((M.1 82 0) + 1) < 10 then
b1 (fX8_endTerm M) fun M6 =>
b1 (fX8_beginTerm M6 w2) fun M8 =>
some M8
else
b1 (fX8_setFault M w1 4) fun M10 =>
some M10)
else
(if w1 = 0 then
(if w2 = 0 then
b1 (fX8_setFault M w1 1) fun M16 =>
some M16
else
bd (stI M 80 5 1) fun M17 =>
some M17)
else
b1 (fX8_setFault M w1 1) fun M13 =>
some M13))
def fX8_scanDigit (M : Mm) (w1 : Int32) (w2 : Int32) : Option (Mm) :=
(if 0 < (M.1 80 8) then
b1 (fX8_setFault M w1 1) fun M3 =>
some M3
else
(if 2 ≤ (M.1 80 6) then
b1 (fX8_setFault M w1 1) fun M6 =>
some M6
else
bd (fun (_ : Unit) =>
bd (stI M 80 6 ((M.1 80 6) + 1)) fun M9 =>
bd (stI M9 80 7 ((10 * (M9.1 80 7)) + w2)) fun M10 =>
some M10) fun k7 =>
(if (M.1 80 6) = 0 then
(if w2 = 0 then
b1 (fX8_setFault M w1 1) fun M14 =>
some M14
else
k7 ())
else
k7 ())))
def fX8_scanLetter (M : Mm) (w1 : Int32) (w2 : Int32) (w3 : Int32) : Option (Mm) :=
(if w2 < w3 then
(if (M.1 80 8) < 4 then
bd (stI M 80 8 ((M.1 80 8) + 1)) fun M3 =>
gd (inb w2 3) <|
bd (stI M3 85 (ix w2) ((M3.1 85 (ix w2)) + 1)) fun M5 =>
some M5
else
b1 (fX8_setFault M w1 3) fun M7 =>
some M7)
else
b1 (fX8_setFault M w1 2) fun M9 =>
some M9)
def fX8_scanCharacter (M : Mm) (w1 : Int32) (w2 : Int32) (w3 : Int32) : Option (Mm) :=
b1 (fX10_within w2 120 122) fun x2 =>
(if x2 = 0 then
b1 (fX10_within w2 48 57) fun x5 =>
(if x5 = 0 then
bd (fun (_ : Unit) =>
(if w2 = 45 then
b1 (fX8_scanSign M w1 1) fun M13 =>
some M13
else
b1 (fX8_scanSign M w1 0) fun M11 =>
some M11)) fun k7 =>
(if w2 = 43 then
k7 ()
else
(if w2 = 45 then
k7 ()
else
b1 (fX8_setFault M w1 1) fun M17 =>
some M17))
else
b1 (fX8_scanDigit M w1 (w2 - 48)) fun M19 =>
some M19)
else
b1 (fX8_scanLetter M w1 (w2 - 120) w3) fun M21 =>
some M21)
def fX8_isFunction_L25 (w1 : Int32) : (Int32 × Mm) → Option ((Int32 × Mm) ⊕ (Mm)) :=
u2 (fun (x6 : Int32) (M7 : Mm) =>
(if (M7.1 80 0) ≤ x6 then
some (Sum.inr M7)
else
(if (M7.1 80 4) = 0 then
gd (inb x6 60) <|
b1 (fX8_scanCharacter M7 x6 (M7.1 81 (ix x6)) w1) fun M12 =>
bd (x6 + 1) fun x13 =>
some (Sum.inl (x13, M12))
else
some (Sum.inr M7))))
def fX8_isFunction (M : Mm) (w1 : Int32) : Option (Int32 × Mm) :=
bd (stI M 82 0 0) fun M1 =>
bd (stI M1 80 3 0) fun M2 =>
bd (stI M2 80 4 0) fun M3 =>
b1 (fX8_beginTerm M3 0) fun M5 =>
b1 (itr (fX8_isFunction_L25 w1) 1000 (0, M5)) fun M15 =>
(if (M15.1 80 4) = 0 then
b1 (fX8_scanEnd M15) fun M19 =>
(if (M19.1 80 4) = 0 then
some (1, M19)
else
some (0, M19))
else
(if (M15.1 80 4) = 0 then
some (1, M15)
else
some (0, M15)))
def fX10_fault (M : Mm) (w1 : Int32) : Option (Int32 × Mm) :=
b1 (fX10_within w1 0 1) fun x2 =>
(if x2 = 0 then
some ((-1000001), M)
else
b2 (fX8_isFunction M (M.1 1 0)) fun x5 M6 =>
(if x5 = 0 then
(if w1 = 0 then
some (M6.1 80 3, M6)
else
some (M6.1 80 4, M6))
else
some ((-1000004), M6)))
def fX11_letter (M : Mm) (w1 : Int32) : Option (Int32) :=
(if (M.1 95 6) ≤ w1 then
some (-1)
else
gd (inb w1 60) <|
some (M.1 99 (ix w1)))
def fX11_isDigit (M : Mm) (w1 : Int32) : Option (Int32) :=
b1 (fX11_letter M w1) fun x2 =>
(if x2 < 48 then
some 0
else
b1 (fX11_letter M w1) fun x5 =>
(if 57 < x5 then
some 0
else
some 1))
def fX11_fail (M : Mm) (w1 : Int32) : Option (Mm) :=
(if (M.1 95 14) = 0 then
bd (stI M 95 14 w1) fun M2 =>
bd (stI M2 95 13 (M2.1 95 12)) fun M3 =>
some M3
else
some M)
def fX11_readNumber (M : Mm) : Option (Int32 × Mm) :=
b1 (fX11_isDigit M (M.1 95 12)) fun x2 =>
(if x2 = 0 then
some (1, M)
else
b1 (fX11_letter M (M.1 95 12)) fun x5 =>
bd (fun (M8 : Mm) =>
b1 (fX11_letter M8 (M8.1 95 12)) fun x10 =>
bd (x10 - 48) fun x11 =>
bd (stI M8 95 12 ((M8.1 95 12) + 1)) fun M12 =>
b1 (fX11_isDigit M12 (M12.1 95 12)) fun x14 =>
(if x14 = 0 then
some (x11, M12)
else
b1 (fX11_letter M12 (M12.1 95 12)) fun x17 =>
bd (((10 * x11) + x17) - 48) fun x18 =>
bd (stI M12 95 12 ((M12.1 95 12) + 1)) fun M19 =>
some (x18, M19))) fun k6 =>
(if x5 = 48 then
b1 (fX11_fail M 1) fun M22 =>
k6 M22
else
k6 M))
def fX11_readLetters_L2 (w1 : Int32) : (Int32 × Mm) → Option ((Int32 × Mm) ⊕ (Mm)) :=
u2 (fun (x1 : Int32) (M2 : Mm) =>
(if (M2.1 95 14) = 0 then
b1 (fX11_letter M2 (M2.1 95 12)) fun x5 =>
b1 (fX11_in x5 120 122) fun x7 =>
(if x7 = 0 then
some (Sum.inr M2)
else
b1 (fX11_letter M2 (M2.1 95 12)) fun x10 =>
bd (x10 - 120) fun x11 =>
b1 (fX11_isVariable M2 x11) fun x13 =>
bd (fun (x16 : Int32) (M17 : Mm) =>
some (Sum.inl (x16, M17))) fun k14 =>
(if x13 = 0 then
b1 (fX11_fail M2 2) fun M27 =>
k14 x1 M27
else
(if x1 = 4 then
b1 (fX11_fail M2 3) fun M25 =>
k14 x1 M25
else
gd (inb (((4 * w1) + 1) + x11) 40) <|
bd (stI M2 102 (ix (((4 * w1) + 1) + x11)) ((M2.1 102 (ix (((4 * w1) + 1) + x11))) + 1)) fun M21 =>
bd (x1 + 1) fun x22 =>
bd (stI M21 95 12 ((M21.1 95 12) + 1)) fun M23 =>
k14 x22 M23)))
else
some (Sum.inr M2)))
def fX11_readLetters (M : Mm) (w1 : Int32) : Option (Mm) :=
b1 (itr (fX11_readLetters_L2 w1) 1000 (0, M)) fun M29 =>
some M29
def fX11_readTerm_L7 (x1 : Int32) : (Int32 × Mm) → Option ((Int32 × Mm) ⊕ (Mm)) :=
u2 (fun (x2 : Int32) (M3 : Mm) =>
(if 4 ≤ x2 then
some (Sum.inr M3)
else
gd (inb ((4 * x1) + x2) 40) <|
bd (stI M3 102 (ix ((4 * x1) + x2)) 0) fun M6 =>
bd (x2 + 1) fun x7 =>
some (Sum.inl (x7, M6))))
def fX11_readTerm (M : Mm) (w1 : Int32) : Option (Mm) :=
bd (M.1 95 11) fun x1 =>
b1 (itr (fX11_readTerm_L7 x1) 1000 (1, M)) fun M9 =>
b1 (fX11_isDigit M9 (M9.1 95 12)) fun x11 =>
bd (fun (M14 : Mm) =>
b2 (fX11_readNumber M14) fun x16 M17 =>
b1 (fX11_readLetters M17 x1) fun M19 =>
bd (fun (x22 : Int32) =>
gd (inb (4 * x1) 40) <|
bd (stI M19 102 (ix (4 * x1)) x22) fun M24 =>
bd (stI M24 95 11 ((M24.1 95 11) + 1)) fun M25 =>
some M25) fun k20 =>
(if w1 = 0 then
k20 x16
else
k20 (-x16))) fun k12 =>
(if x11 = 0 then
b1 (fX11_letter M9 (M9.1 95 12)) fun x29 =>
b1 (fX11_in x29 120 122) fun x31 =>
(if x31 = 0 then
b1 (fX11_fail M9 1) fun M34 =>
k12 M34
else
k12 M9)
else
k12 M9)
def fX11_readText_L54 : (Mm) → Option ((Mm) ⊕ (Mm)) :=
fun (M15 : Mm) =>
(if (M15.1 95 14) = 0 then
(if (M15.1 95 6) ≤ (M15.1 95 12) then
some (Sum.inr M15)
else
b1 (fX11_letter M15 (M15.1 95 12)) fun x19 =>
bd (fun (M22 : Mm) =>
some (Sum.inl M22)) fun k20 =>
bd (fun (_ : Unit) =>
(if (M15.1 95 11) = 10 then
b1 (fX11_fail M15 4) fun M34 =>
k20 M34
else
bd (stI M15 95 12 ((M15.1 95 12) + 1)) fun M26 =>
bd (fun (x29 : Int32) =>
b1 (fX11_readTerm M26 x29) fun M31 =>
k20 M31) fun k27 =>
(if x19 = 45 then
k27 1
else
k27 0))) fun k23 =>
(if x19 = 43 then
k23 ()
else
(if x19 = 45 then
k23 ()
else
b1 (fX11_fail M15 1) fun M38 =>
k20 M38)))
else
some (Sum.inr M15))
def fX11_readText (M : Mm) : Option (Mm) :=
bd (stI M 95 14 0) fun M1 =>
bd (stI M1 95 11 0) fun M2 =>
bd (stI M2 95 12 0) fun M3 =>
b1 (fX11_letter M3 0) fun x5 =>
bd (fun (x8 : Int32) =>
bd (fun (x11 : Int32) =>
bd (stI M3 95 12 ((M3.1 95 12) + x11)) fun M12 =>
b1 (fX11_readTerm M12 x8) fun M14 =>
b1 (itr (fX11_readText_L54) 1000 M14) fun M40 =>
some M40) fun k9 =>
(if x8 = 0 then
k9 0
else
k9 1)) fun k6 =>
(if x5 = 45 then
k6 1
else
k6 0)
def fX11_fault (M : Mm) (w1 : Int32) : Option (Int32 × Mm) :=
b1 (fX11_in w1 0 1) fun x2 =>
(if x2 = 0 then
some ((-1000001), M)
else
b1 (fX11_readText M) fun M5 =>
(if (M5.1 95 14) = 0 then
some ((-1000004), M5)
else
(if w1 = 0 then
some (M5.1 95 13, M5)
else
some (M5.1 95 14, M5))))
def fX10_read (M : Mm) : Option (Int32 × Mm) :=
b2 (fX8_isFunction M (M.1 1 0)) fun x2 M3 =>
(if x2 = 0 then
some ((-1000002), M3)
else
b1 (fX2_push M3) fun M6 =>
b1 (fX7_copyFrom 2 82 M6) fun M8 =>
some (M8.1 2 0, M8))
def fX11_read_L30 : (Int32 × Mm) → Option ((Int32 × Mm) ⊕ (Mm)) :=
u2 (fun (x7 : Int32) (M8 : Mm) =>
(if (M8.1 95 11) ≤ x7 then
some (Sum.inr M8)
else
gd (inb (4 * x7) 40) <|
gd (inb ((4 * x7) + 1) 40) <|
gd (inb ((4 * x7) + 2) 40) <|
gd (inb ((4 * x7) + 3) 40) <|
b1 (fX11_putTerm M8 x7 (M8.1 102 (ix (4 * x7))) (M8.1 102 (ix ((4 * x7) + 1))) (M8.1 102 (ix ((4 * x7) + 2))) (M8.1 102 (ix ((4 * x7) + 3)))) fun M15 =>
bd (x7 + 1) fun x16 =>
some (Sum.inl (x16, M15))))
def fX11_read (M : Mm) : Option (Int32 × Mm) :=
b1 (fX11_readText M) fun M2 =>
(if (M2.1 95 14) = 0 then
b1 (fX11_record M2) fun M5 =>
bd (stI M5 96 1 (M5.1 95 11)) fun M6 =>
b1 (itr (fX11_read_L30) 1000 (0, M6)) fun M18 =>
some (M18.1 95 11, M18)
else
some ((-1000002), M2))
