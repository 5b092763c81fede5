def fL_cell (L : Nat) (xs : Nat → Int32) (w1 : Int32) : Option (Int32) :=
(if (nI L) ≤ w1 then
some ((32452867 * w1) + 49979687)
else
gd (inb w1 L) <|
some (xs (ix w1)))
def fL_low (w0 : Int32) (w1 : Int32) : Option (Int32) :=
gd (¬ w1 = 0) <|
some (rm (w0 &&& 2147483647) w1)
def fX10_within (w0 : Int32) (w1 : Int32) (w2 : Int32) : Option (Int32) :=
(if w0 < w1 then
some (0 : Int32)
else
(if w2 < w0 then
some (0 : Int32)
else
some (1 : Int32)))
def fX7_copyFrom (c : Nat) (o : Nat) (M : Mm) : Option (Mm) :=
bd (stI M c 0 (M.1 o 0)) fun M1 =>
bd (cpI M1 (o + 1) 0 (c + 1) 0 10) fun M2 =>
bd (cpI M2 (o + 2) 0 (c + 2) 0 30) fun M3 =>
some M3
def fX0_copyFrom (c : Nat) (o : Nat) (M : Mm) : Option (Mm) :=
bd (cpI M (o + 1) 0 (c + 1) 0 3) fun M1 =>
bd (cpI M1 (o + 2) 0 (c + 2) 0 3) fun M2 =>
some M2
def fX1_copyFrom (c : Nat) (o : Nat) (M : Mm) : Option (Mm) :=
bd (stI M c 0 (M.1 o 0)) fun M1 =>
bd (cpI M1 (o + 1) 0 (c + 1) 0 24) fun M2 =>
bd (cpI M2 (o + 2) 0 (c + 2) 0 8) fun M3 =>
some M3
def fX4_copyFrom (c : Nat) (o : Nat) (M : Mm) : Option (Mm) :=
bd (cpI M (o + 1) 0 (c + 1) 0 3) fun M1 =>
bd (stI M1 c 1 (M1.1 o 1)) fun M2 =>
bd (stI M2 c 2 (M2.1 o 2)) fun M3 =>
bd (stI M3 c 3 (M3.1 o 3)) fun M4 =>
bd (stI M4 c 4 (M4.1 o 4)) fun M5 =>
bd (stI M5 c 5 (M5.1 o 5)) fun M6 =>
bd (stI M6 c 6 (M6.1 o 6)) fun M7 =>
bd (cpI M7 (o + 2) 0 (c + 2) 0 18) fun M8 =>
gd ((M8.1 o 8) = 0 ∨ (M8.1 o 8) = 1) <|
bd (stI M8 c 8 (M8.1 o 8)) fun M10 =>
some M10
def fX6_copyFrom (c : Nat) (o : Nat) (M : Mm) : Option (Mm) :=
bd (stI M c 0 (M.1 o 0)) fun M1 =>
bd (stI M1 c 1 (M1.1 o 1)) fun M2 =>
bd (stI M2 c 2 (M2.1 o 2)) fun M3 =>
b1 (fX7_copyFrom (c + 1) (o + 1) M3) fun M5 =>
b1 (fX0_copyFrom (c + 4) (o + 4) M5) fun M7 =>
b1 (fX1_copyFrom (c + 7) (o + 7) M7) fun M9 =>
b1 (fX4_copyFrom (c + 10) (o + 10) M9) fun M11 =>
some M11
def fX2_push (M : Mm) : Option (Mm) :=
b1 (fX6_copyFrom 54 41 M) fun M2 =>
b1 (fX6_copyFrom 41 28 M2) fun M4 =>
b1 (fX6_copyFrom 28 15 M4) fun M6 =>
b1 (fX6_copyFrom 15 1 M6) fun M8 =>
bd (stI M8 14 0 (if 4 < ((M8.1 14 0) + 1) then 4 else ((M8.1 14 0) + 1))) fun M9 =>
some M9
def fX0_reset_L2 : (Int32 × Mm) → Option ((Int32 × Mm) ⊕ (Mm)) :=
u2 (fun (x1 : Int32) (M2 : Mm) =>
(if 3 ≤ x1 then
some (Sum.inr M2)
else
gd (inb x1 3) <|
bd (stI M2 6 (ix x1) (-50)) fun M5 =>
bd (stI M5 7 (ix x1) 50) fun M6 =>
bd (x1 + 1) fun x7 =>
some (Sum.inl (x7, M6))))
def fX0_reset (M : Mm) : Option (Mm) :=
b1 (itr (fX0_reset_L2) 1000 (0, M)) fun M9 =>
some M9
def fX1_add (M : Mm) (w1 : Int32) (w2 : Int32) (w3 : Int32) : Option (Mm) :=
(if (M.1 8 0) < 8 then
gd (inb (3 * (M.1 8 0)) 24) <|
bd (stI M 9 (ix (3 * (M.1 8 0))) w1) fun M3 =>
gd (inb ((3 * (M3.1 8 0)) + 1) 24) <|
bd (stI M3 9 (ix ((3 * (M3.1 8 0)) + 1)) w2) fun M5 =>
gd (inb ((3 * (M5.1 8 0)) + 2) 24) <|
bd (stI M5 9 (ix ((3 * (M5.1 8 0)) + 2)) w3) fun M7 =>
gd (inb (M7.1 8 0) 8) <|
bd (stI M7 10 (ix (M7.1 8 0)) 0) fun M9 =>
bd (stI M9 8 0 ((M9.1 8 0) + 1)) fun M10 =>
some M10
else
some M)
def fX1_addAlong (M : Mm) (w1 : Int32) (w2 : Int32) : Option (Mm) :=
bd (fun (x3 : Int32) =>
bd (fun (x6 : Int32) =>
(if w1 = 2 then
b1 (fX1_add M x3 x6 w2) fun M11 =>
some M11
else
b1 (fX1_add M x3 x6 0) fun M9 =>
some M9)) fun k4 =>
(if w1 = 1 then
k4 w2
else
k4 0)) fun k1 =>
(if w1 = 0 then
k1 w2
else
k1 0)
def fX1_reset_L7 (w1 : Int32) : (Int32 × Mm) → Option ((Int32 × Mm) ⊕ (Mm)) :=
u2 (fun (x2 : Int32) (M3 : Mm) =>
(if w1 ≤ x2 then
some (Sum.inr M3)
else
b1 (fX1_addAlong M3 x2 1) fun M6 =>
b1 (fX1_addAlong M6 x2 (-1)) fun M8 =>
bd (x2 + 1) fun x9 =>
some (Sum.inl (x9, M8))))
def fX1_reset (M : Mm) (w1 : Int32) : Option (Mm) :=
bd (stI M 8 0 0) fun M1 =>
b1 (itr (fX1_reset_L7 w1) 1000 (0, M1)) fun M11 =>
some M11
def fX4_moveTo (M : Mm) (w1 : Int32) (w2 : Int32) (w3 : Int32) : Option (Mm) :=
bd (stI M 12 0 w1) fun M1 =>
bd (stI M1 12 1 w2) fun M2 =>
bd (stI M2 12 2 w3) fun M3 =>
some M3
def fX4_begin (M : Mm) (w1 : Int32) (w2 : Int32) (w3 : Int32) (w4 : Int32) : Option (Mm) :=
b1 (fX4_moveTo M w1 w2 w3) fun M2 =>
bd (stI M2 11 1 w4) fun M3 =>
bd (stI M3 11 2 0) fun M4 =>
bd (stI M4 11 3 0) fun M5 =>
bd (stI M5 11 4 0) fun M6 =>
bd (stI M6 11 5 (-1)) fun M7 =>
bd (stI M7 11 6 0) fun M8 =>
bd (stI M8 11 8 0) fun M9 =>
some M9
def fX6_reset (M : Mm) (w1 : Int32) : Option (Mm) :=
bd (stI M 1 0 w1) fun M1 =>
bd (stI M1 1 1 0) fun M2 =>
bd (stI M2 1 2 0) fun M3 =>
bd (stI M3 2 0 0) fun M4 =>
b1 (fX0_reset M4) fun M6 =>
b1 (fX1_reset M6 w1) fun M8 =>
b1 (fX4_begin M8 0 0 0 4) fun M10 =>
some M10
def fX10_variables (M : Mm) (w1 : Int32) : Option (Int32 × Mm) :=
b1 (fX10_within w1 1 3) fun x2 =>
(if x2 = 0 then
some ((-1000001 : Int32), M)
else
bd (M.1 1 0) fun x4 =>
b1 (fX2_push M) fun M6 =>
b1 (fX6_reset M6 w1) fun M8 =>
some (x4, M8))
def fX6_fit (M : Mm) (w1 : Int32) (w2 : Int32) (w3 : Int32) (w4 : Int32) (w5 : Int32) : Option (Int32) :=
b1 (fX10_within w1 w4 w5) fun x2 =>
(if x2 = 0 then
some (0 : Int32)
else
b1 (fX10_within w2 w4 w5) fun x5 =>
(if x5 = 0 then
some (0 : Int32)
else
b1 (fX10_within w3 w4 w5) fun x8 =>
(if x8 = 0 then
some (0 : Int32)
else
bd (fun (_ : Unit) =>
(if 2 < (M.1 1 0) then
some (1 : Int32)
else
(if w3 = 0 then
some (1 : Int32)
else
some (0 : Int32)))) fun k10 =>
(if 1 < (M.1 1 0) then
k10 ()
else
(if w2 = 0 then
k10 ()
else
some (0 : Int32))))))
def fX1_forgetTaken_L2 : (Int32 × Mm) → Option ((Int32 × Mm) ⊕ (Mm)) :=
u2 (fun (x1 : Int32) (M2 : Mm) =>
(if 8 ≤ x1 then
some (Sum.inr M2)
else
gd (inb x1 8) <|
bd (stI M2 10 (ix x1) 0) fun M5 =>
bd (x1 + 1) fun x6 =>
some (Sum.inl (x6, M5))))
def fX1_forgetTaken (M : Mm) : Option (Mm) :=
b1 (itr (fX1_forgetTaken_L2) 1000 (0, M)) fun M8 =>
some M8
def fX0_allow (M : Mm) (w1 : Int32) (w2 : Int32) (w3 : Int32) : Option (Int32) :=
b1 (fX10_within w1 (M.1 6 0) (M.1 7 0)) fun x2 =>
(if x2 = 0 then
some (0 : Int32)
else
b1 (fX10_within w2 (M.1 6 1) (M.1 7 1)) fun x5 =>
(if x5 = 0 then
some (0 : Int32)
else
b1 (fX10_within w3 (M.1 6 2) (M.1 7 2)) fun x8 =>
(if x8 = 0 then
some (0 : Int32)
else
some (1 : Int32))))
def fX6_placeIsAllowed (M : Mm) : Option (Int32) :=
b1 (fX0_allow M (M.1 12 0) (M.1 12 1) (M.1 12 2)) fun x2 =>
gd (x2 = 0 ∨ x2 = 1) <|
some x2
def fX10_oneIf (w0 : Int32) : Option (Int32) :=
(if w0 = 0 then
some (0 : Int32)
else
some (1 : Int32))
def fX10_start (M : Mm) (w1 : Int32) (w2 : Int32) (w3 : Int32) (w4 : Int32) : Option (Int32 × Mm) :=
b1 (fX6_fit M w1 w2 w3 (-50) 50) fun x2 =>
(if x2 = 0 then
some ((-1000001 : Int32), M)
else
b1 (fX10_within w4 0 4) fun x5 =>
(if x5 = 0 then
some ((-1000001 : Int32), M)
else
b1 (fX2_push M) fun M8 =>
b1 (fX4_begin M8 w1 w2 w3 (1 <<< (w4 &&& 31))) fun M10 =>
b1 (fX1_forgetTaken M10) fun M12 =>
b1 (fX6_placeIsAllowed M12) fun x14 =>
b1 (fX10_oneIf x14) fun x16 =>
some (x16, M12)))
def fX10_order (M : Mm) (w1 : Int32) (w2 : Int32) : Option (Int32 × Mm) :=
b1 (fX10_within w1 0 2) fun x2 =>
(if x2 = 0 then
some ((-1000001 : Int32), M)
else
b1 (fX10_within w2 0 1) fun x5 =>
(if x5 = 0 then
some ((-1000001 : Int32), M)
else
bd ((10 * (M.1 1 1)) + (M.1 1 2)) fun x7 =>
b1 (fX2_push M) fun M9 =>
bd (stI M9 1 1 w1) fun M10 =>
bd (stI M10 1 2 w2) fun M11 =>
some (x7, M11)))
def fX6_hasVariable (M : Mm) (w1 : Int32) : Option (Int32) :=
b1 (fX10_within w1 0 ((M.1 1 0) - 1)) fun x2 =>
gd (x2 = 0 ∨ x2 = 1) <|
some x2
def fX10_bound (M : Mm) (w1 : Int32) (w2 : Int32) (w3 : Int32) : Option (Int32 × Mm) :=
b1 (fX6_hasVariable M w1) fun x2 =>
(if x2 = 0 then
some ((-1000001 : Int32), M)
else
b1 (fX10_within w2 (-50) 50) fun x5 =>
(if x5 = 0 then
some ((-1000001 : Int32), M)
else
b1 (fX10_within w3 w2 50) fun x8 =>
(if x8 = 0 then
some ((-1000001 : Int32), M)
else
b1 (fX2_push M) fun M11 =>
gd (inb w1 3) <|
bd (stI M11 6 (ix w1) w2) fun M13 =>
bd (stI M13 7 (ix w1) w3) fun M14 =>
b1 (fX6_placeIsAllowed M14) fun x16 =>
b1 (fX10_oneIf x16) fun x18 =>
some (x18, M14))))
def fX10_boundOf (M : Mm) (w1 : Int32) : Option (Int32) :=
b1 (fX10_within w1 10 (9 + (M.1 1 0))) fun x2 =>
(if x2 = 0 then
b1 (fX10_within w1 20 (19 + (M.1 1 0))) fun x5 =>
(if x5 = 0 then
some (-1000001 : Int32)
else
gd (inb (w1 - 20) 3) <|
some (M.1 7 (ix (w1 - 20))))
else
gd (inb (w1 - 10) 3) <|
some (M.1 6 (ix (w1 - 10))))
def fX10_count (M : Mm) (w1 : Int32) : Option (Int32) :=
(if w1 = 0 then
some (M.1 1 0)
else
(if w1 = 1 then
some (M.1 2 0)
else
(if w1 = 2 then
some (M.1 8 0)
else
(if w1 = 3 then
some (M.1 1 1)
else
(if w1 = 4 then
some (M.1 1 2)
else
(if w1 = 5 then
some (M.1 14 0)
else
(if w1 = 6 then
some (M.1 80 0)
else
(if w1 = 7 then
b1 (fX10_oneIf (M.1 0 3)) fun x10 =>
some x10
else
b1 (fX10_boundOf M w1) fun x12 =>
some x12))))))))
def fX1_has_L3 (M : Mm) (w1 : Int32) (w2 : Int32) (w3 : Int32) : (Int32) → Option ((Int32) ⊕ ((Unit) ⊕ (Unit))) :=
fun (x1 : Int32) =>
(if (M.1 8 0) ≤ x1 then
some (Sum.inr (Sum.inr ()))
else
bd (3 * x1) fun x3 =>
gd (inb x3 24) <|
bd (fun (_ : Unit) =>
bd (x1 + 1) fun x7 =>
some (Sum.inl x7)) fun k5 =>
(if (M.1 9 (ix x3)) = w1 then
gd (inb (x3 + 1) 24) <|
(if (M.1 9 (ix (x3 + 1))) = w2 then
gd (inb (x3 + 2) 24) <|
(if (M.1 9 (ix (x3 + 2))) = w3 then
some (Sum.inr (Sum.inl ()))
else
k5 ())
else
k5 ())
else
k5 ()))
def fX1_has (M : Mm) (w1 : Int32) (w2 : Int32) (w3 : Int32) : Option (Int32) :=
bs (itr (fX1_has_L3 M w1 w2 w3) 1000 0) (fun (_ : Unit) =>
some (1 : Int32)) (fun (_ : Unit) =>
some (0 : Int32))
def fX10_direction (M : Mm) (w1 : Int32) (w2 : Int32) (w3 : Int32) : Option (Int32 × Mm) :=
b1 (fX6_fit M w1 w2 w3 (-3) 3) fun x2 =>
(if x2 = 0 then
some ((-1000001 : Int32), M)
else
bd (fun (_ : Unit) =>
b1 (fX1_has M w1 w2 w3) fun x7 =>
(if x7 = 0 then
(if (M.1 8 0) < 8 then
b1 (fX2_push M) fun M11 =>
b1 (fX1_add M11 w1 w2 w3) fun M13 =>
some ((M13.1 8 0) - 1, M13)
else
some ((-1000003 : Int32), M))
else
some ((-1000002 : Int32), M))) fun k4 =>
(if w1 = 0 then
(if w2 = 0 then
(if w3 = 0 then
some ((-1000001 : Int32), M)
else
k4 ())
else
k4 ())
else
k4 ()))
def fX10_closeGap_L5 (w1 : Int32) (w3 : Int32) (n : Nat) (a : Nat) : (Int32 × Mm) → Option ((Int32 × Mm) ⊕ (Mm)) :=
u2 (fun (x2 : Int32) (M3 : Mm) =>
(if (w1 * w3) ≤ (x2 + w1) then
some (Sum.inr M3)
else
gd (inb (x2 + w1) n) <|
gd (inb x2 n) <|
bd (stI M3 a (ix x2) (M3.1 a (ix (x2 + w1)))) fun M7 =>
bd (x2 + 1) fun x8 =>
some (Sum.inl (x8, M7))))
def fX10_closeGap (a n : Nat) (M : Mm) (w1 : Int32) (w2 : Int32) (w3 : Int32) : Option (Mm) :=
bd (w1 * w2) fun x1 =>
b1 (itr (fX10_closeGap_L5 w1 w3 n a) 1000 (x1, M)) fun M10 =>
some M10
def fX1_remove (M : Mm) (w1 : Int32) : Option (Mm) :=
(if w1 < 0 then
some M
else
(if w1 < (M.1 8 0) then
b1 (fX10_closeGap 10 8 M 1 w1 (M.1 8 0)) fun M4 =>
b1 (fX10_closeGap 9 24 M4 3 w1 (M4.1 8 0)) fun M6 =>
bd (stI M6 8 0 ((M6.1 8 0) - 1)) fun M7 =>
some M7
else
some M))
def fX4_forgetDirection (M : Mm) (w1 : Int32) : Option (Mm) :=
(if (M.1 11 5) = w1 then
bd (stI M 11 5 (-1)) fun M4 =>
some M4
else
(if (M.1 11 5) ≤ w1 then
some M
else
bd (stI M 11 5 ((M.1 11 5) - 1)) fun M3 =>
some M3))
def fX10_dropDirection (M : Mm) (w1 : Int32) : Option (Int32 × Mm) :=
(if 0 ≤ w1 then
(if w1 < (M.1 8 0) then
b1 (fX2_push M) fun M4 =>
b1 (fX1_remove M4 w1) fun M6 =>
b1 (fX4_forgetDirection M6 w1) fun M8 =>
some (M8.1 8 0, M8)
else
some ((-1000002 : Int32), M))
else
some ((-1000001 : Int32), M))
def fX7_add (M : Mm) (w1 : Int32) (w2 : Int32) (w3 : Int32) (w4 : Int32) : Option (Mm) :=
(if (M.1 2 0) < 10 then
gd (inb (M.1 2 0) 10) <|
bd (stI M 3 (ix (M.1 2 0)) w1) fun M3 =>
gd (inb (3 * (M3.1 2 0)) 30) <|
bd (stI M3 4 (ix (3 * (M3.1 2 0))) w2) fun M5 =>
gd (inb ((3 * (M5.1 2 0)) + 1) 30) <|
bd (stI M5 4 (ix ((3 * (M5.1 2 0)) + 1)) w3) fun M7 =>
gd (inb ((3 * (M7.1 2 0)) + 2) 30) <|
bd (stI M7 4 (ix ((3 * (M7.1 2 0)) + 2)) w4) fun M9 =>
bd (stI M9 2 0 ((M9.1 2 0) + 1)) fun M10 =>
some M10
else
some M)
def fX10_term (M : Mm) (w1 : Int32) (w2 : Int32) (w3 : Int32) (w4 : Int32) : Option (Int32 × Mm) :=
b1 (fX10_within w1 (-99) 99) fun x2 =>
(if x2 = 0 then
some ((-1000001 : Int32), M)
else
(if w1 = 0 then
some ((-1000001 : Int32), M)
else
b1 (fX6_fit M w2 w3 w4 0 4) fun x6 =>
(if x6 = 0 then
some ((-1000001 : Int32), M)
else
(if ((w2 + w3) + w4) ≤ 4 then
(if (M.1 2 0) < 10 then
b1 (fX2_push M) fun M11 =>
b1 (fX7_add M11 w1 w2 w3 w4) fun M13 =>
some (M13.1 2 0, M13)
else
some ((-1000003 : Int32), M))
else
some ((-1000001 : Int32), M)))))
def fX5_addAlong_L2 (w1 : Int32) (w2 : Int32) : (Int32 × Mm) → Option ((Int32 × Mm) ⊕ (Mm)) :=
u2 (fun (x1 : Int32) (M2 : Mm) =>
(if 3 ≤ x1 then
some (Sum.inr M2)
else
bd (fun (x6 : Int32) =>
gd (inb ((3 * (M2.1 92 0)) + x1) 42) <|
bd (stI M2 93 (ix ((3 * (M2.1 92 0)) + x1)) x6) fun M8 =>
bd (x1 + 1) fun x9 =>
some (Sum.inl (x9, M8))) fun k4 =>
(if x1 = w1 then
k4 w2
else
k4 0)))
def fX5_addAlong (M : Mm) (w1 : Int32) (w2 : Int32) : Option (Mm) :=
b1 (itr (fX5_addAlong_L2 w1 w2) 1000 (0, M)) fun M12 =>
bd (stI M12 92 0 ((M12.1 92 0) + 1)) fun M13 =>
some M13
def fX5_fill_L29 : (Int32 × Mm) → Option ((Int32 × Mm) ⊕ (Mm)) :=
u2 (fun (x4 : Int32) (M5 : Mm) =>
(if 3 ≤ x4 then
some (Sum.inr M5)
else
b1 (fX5_addAlong M5 x4 1) fun M8 =>
b1 (fX5_addAlong M8 x4 (-1)) fun M10 =>
bd (x4 + 1) fun x11 =>
some (Sum.inl (x11, M10))))
def fX5_fill (M : Mm) (w2 : Int32) : Option (Mm) :=
bd (stI M 92 0 (M.1 8 0)) fun M1 =>
gd (0 ≤ 3 * (M1.1 92 0) ∧ 0 + ix (3 * (M1.1 92 0)) ≤ 24 ∧ 0 + ix (3 * (M1.1 92 0)) ≤ 42) <|
bd (cpI M1 9 0 93 0 (ix (3 * (M1.1 92 0)))) fun M2 =>
b1 (itr (fX5_fill_L29) 1000 (w2, M2)) fun M13 =>
some M13
def fX5_findNormal (M : Mm) (w1 : Int32) (w2 : Int32) : Option (Int32 × Mm) :=
gd (inb (w1 + 1) 42) <|
gd (inb (w2 + 2) 42) <|
gd (inb (w1 + 2) 42) <|
gd (inb (w2 + 1) 42) <|
bd (stI M 94 0 (((M.1 93 (ix (w1 + 1))) * (M.1 93 (ix (w2 + 2)))) - ((M.1 93 (ix (w1 + 2))) * (M.1 93 (ix (w2 + 1)))))) fun M5 =>
gd (inb w2 42) <|
gd (inb w1 42) <|
bd (stI M5 94 1 (((M5.1 93 (ix (w1 + 2))) * (M5.1 93 (ix w2))) - ((M5.1 93 (ix w1)) * (M5.1 93 (ix (w2 + 2)))))) fun M8 =>
bd (stI M8 94 2 (((M8.1 93 (ix w1)) * (M8.1 93 (ix (w2 + 1)))) - ((M8.1 93 (ix (w1 + 1))) * (M8.1 93 (ix w2))))) fun M9 =>
(if (M9.1 94 0) = 0 then
(if (M9.1 94 1) = 0 then
(if (M9.1 94 2) = 0 then
some ((0 : Int32), M9)
else
some ((1 : Int32), M9))
else
some ((1 : Int32), M9))
else
some ((1 : Int32), M9))
def fX5_hasRowsOnBothSides_L6 (M : Mm) : (Int32 × Int32 × Int32) → Option ((Int32 × Int32 × Int32) ⊕ (Int32 × Int32)) :=
u3 (fun (x1 : Int32) (x2 : Int32) (x3 : Int32) =>
(if (M.1 92 0) ≤ x3 then
some (Sum.inr (x1, x2))
else
bd (3 * x3) fun x5 =>
gd (inb x5 42) <|
gd (inb (x5 + 1) 42) <|
gd (inb (x5 + 2) 42) <|
bd ((((M.1 94 0) * (M.1 93 (ix x5))) + ((M.1 94 1) * (M.1 93 (ix (x5 + 1))))) + ((M.1 94 2) * (M.1 93 (ix (x5 + 2))))) fun x9 =>
bd (fun (x12 : Int32) =>
bd (fun (x15 : Int32) =>
bd (x3 + 1) fun x16 =>
some (Sum.inl (x12, x15, x16))) fun k13 =>
bd (fun (_ : Unit) =>
k13 1) fun k17 =>
(if x2 = 0 then
(if 0 ≤ x9 then
k13 0
else
k17 ())
else
k17 ())) fun k10 =>
bd (fun (_ : Unit) =>
k10 1) fun k21 =>
(if x1 = 0 then
(if x9 ≤ 0 then
k10 0
else
k21 ())
else
k21 ())))
def fX5_hasRowsOnBothSides (M : Mm) : Option (Int32) :=
b2 (itr (fX5_hasRowsOnBothSides_L6 M) 1000 (0, 0, 0)) fun x26 x27 =>
(if x26 = 0 then
some (0 : Int32)
else
(if x27 = 0 then
some (0 : Int32)
else
some (1 : Int32)))
def fX5_isWhole_L26 (x4 : Int32) : (Int32 × Int32 × Mm) → Option ((Int32 × Int32 × Mm) ⊕ ((Mm) ⊕ (Int32 × Mm))) :=
u3 (fun (x8 : Int32) (x9 : Int32) (M10 : Mm) =>
(if (M10.1 92 0) ≤ x9 then
some (Sum.inr (Sum.inr (x8, M10)))
else
b2 (fX5_findNormal M10 (3 * x4) (3 * x9)) fun x13 M14 =>
bd (fun (x17 : Int32) =>
bd (x9 + 1) fun x18 =>
some (Sum.inl (x17, x18, M14))) fun k15 =>
(if x13 = 0 then
k15 x8
else
b1 (fX5_hasRowsOnBothSides M14) fun x21 =>
(if x21 = 0 then
some (Sum.inr (Sum.inl M14))
else
k15 1))))
def fX5_isWhole_L11 : (Int32 × Int32 × Mm) → Option ((Int32 × Int32 × Mm) ⊕ ((Mm) ⊕ (Int32 × Mm))) :=
u3 (fun (x3 : Int32) (x4 : Int32) (M5 : Mm) =>
(if (M5.1 92 0) ≤ x4 then
some (Sum.inr (Sum.inr (x3, M5)))
else
bd (x4 + 1) fun x7 =>
bs (itr (fX5_isWhole_L26 x4) 1000 (x3, x7, M5)) (fun (M24 : Mm) =>
some (Sum.inr (Sum.inl M24))) (u2 (fun (x25 : Int32) (M26 : Mm) =>
bd (x4 + 1) fun x27 =>
some (Sum.inl (x25, x27, M26))))))
def fX5_isWhole (M : Mm) (w2 : Int32) : Option (Int32 × Mm) :=
b1 (fX5_fill M w2) fun M2 =>
bs (itr (fX5_isWhole_L11) 1000 (0, 0, M2)) (fun (M30 : Mm) =>
some ((0 : Int32), M30)) (u2 (fun (x31 : Int32) (M32 : Mm) =>
gd (x31 = 0 ∨ x31 = 1) <|
some (x31, M32)))
def fX10_spans (M : Mm) : Option (Int32 × Mm) :=
b2 (fX5_isWhole M (M.1 1 0)) fun x2 M3 =>
b1 (fX10_oneIf x2) fun x5 =>
some (x5, M3)
def fL_build_L66 (x11 : Int32) (L : Nat) (xs : Nat → Int32) (w2 : Int32) : (Int32 × Int32 × Mm) → Option ((Int32 × Int32 × Mm) ⊕ (Int32 × Mm)) :=
u3 (fun (x12 : Int32) (x13 : Int32) (M14 : Mm) =>
(if x11 ≤ x13 then
some (Sum.inr (x12, M14))
else
(if x12 = 0 then
some (Sum.inr (x12, M14))
else
b1 (fL_cell L xs (2 + x13)) fun x18 =>
b1 (fL_low (x18 >>> (8 &&& 31)) 3) fun x20 =>
bd (fun (x23 : Int32) =>
bd (fun (x26 : Int32) =>
b1 (fL_low x18 2) fun x28 =>
bd (fun (x31 : Int32) =>
bd (fun (M34 : Mm) (x35 : Int32) =>
bd (x13 + 1) fun x36 =>
some (Sum.inl (x35, x36, M34))) fun k32 =>
bd (fun (M39 : Mm) =>
k32 M39 1) fun k37 =>
(if 4 < ((x20 + x23) + x26) then
k37 M14
else
b2 (fX10_term M14 x31 x20 x23 x26) fun x42 M43 =>
b1 (fX10_count M43 1) fun x45 =>
(if x42 = x45 then
k37 M43
else
k32 M43 0))) fun k29 =>
(if x28 = 0 then
b1 (fL_low (x18 >>> (1 &&& 31)) 9) fun x51 =>
k29 (1 + x51)
else
b1 (fL_low (x18 >>> (1 &&& 31)) 9) fun x49 =>
k29 ((-1) - x49))) fun k24 =>
(if w2 ≤ 2 then
k24 0
else
b1 (fL_low (x18 >>> (12 &&& 31)) 2) fun x54 =>
k24 x54)) fun k21 =>
(if w2 ≤ 1 then
k21 0
else
b1 (fL_low (x18 >>> (10 &&& 31)) 3) fun x57 =>
k21 x57))))
def fL_build_L221 (L : Nat) (xs : Nat → Int32) (w2 : Int32) : (Int32 × Int32 × Mm) → Option ((Int32 × Int32 × Mm) ⊕ (Int32 × Mm)) :=
u3 (fun (x61 : Int32) (x62 : Int32) (M63 : Mm) =>
(if 4 ≤ x62 then
some (Sum.inr (x61, M63))
else
(if x61 = 0 then
some (Sum.inr (x61, M63))
else
b1 (fL_cell L xs (10 + x62)) fun x67 =>
b1 (fL_low x67 7) fun x69 =>
bd (x69 - 3) fun x70 =>
bd (fun (x73 : Int32) =>
bd (fun (x76 : Int32) =>
b1 (fX10_count M63 2) fun x78 =>
b1 (fL_low (x67 >>> (12 &&& 31)) 3) fun x80 =>
bd (fun (x83 : Int32) (M84 : Mm) =>
bd (x62 + 1) fun x85 =>
some (Sum.inl (x83, x85, M84))) fun k81 =>
bd (fun (_ : Unit) =>
bd (fun (_ : Unit) =>
b2 (fX10_direction M63 x70 x73 x76) fun x91 M92 =>
bd (fun (x95 : Int32) =>
k81 x95 M92) fun k93 =>
bd (fun (_ : Unit) =>
k93 1) fun k96 =>
(if x91 = (-1000002) then
k96 ()
else
bd (fun (x101 : Int32) =>
(if x91 = x101 then
k96 ()
else
k93 0)) fun k99 =>
(if x78 = 8 then
k99 (-1000003)
else
k99 x78))) fun k88 =>
(if x70 = 0 then
(if x73 = 0 then
(if x76 = 0 then
k81 x61 M63
else
k88 ())
else
k88 ())
else
k88 ())) fun k86 =>
(if x80 = 0 then
(if x78 ≤ 0 then
k86 ()
else
b1 (fL_low (x67 >>> (14 &&& 31)) x78) fun x110 =>
b2 (fX10_dropDirection M63 x110) fun x112 M113 =>
bd (fun (x116 : Int32) =>
k81 x116 M113) fun k114 =>
(if x112 = (x78 - 1) then
k114 1
else
k114 0))
else
k86 ())) fun k74 =>
(if w2 ≤ 2 then
k74 0
else
b1 (fL_low (x67 >>> (6 &&& 31)) 7) fun x120 =>
k74 (x120 - 3))) fun k71 =>
(if w2 ≤ 1 then
k71 0
else
b1 (fL_low (x67 >>> (3 &&& 31)) 7) fun x123 =>
k71 (x123 - 3)))))
def fL_build_L420 (w2 : Int32) (L : Nat) (xs : Nat → Int32) : (Int32 × Int32 × Mm) → Option ((Int32 × Int32 × Mm) ⊕ (Int32 × Mm)) :=
u3 (fun (x127 : Int32) (x128 : Int32) (M129 : Mm) =>
(if w2 ≤ x128 then
some (Sum.inr (x127, M129))
else
(if x127 = 0 then
some (Sum.inr (x127, M129))
else
b1 (fL_cell L xs (16 + x128)) fun x133 =>
b1 (fL_low x133 46) fun x135 =>
bd (5 + x135) fun x136 =>
b2 (fX10_bound M129 x128 (-x136) x136) fun x138 M139 =>
bd (fun (x142 : Int32) =>
bd (x128 + 1) fun x143 =>
some (Sum.inl (x142, x143, M139))) fun k140 =>
bd (fun (_ : Unit) =>
k140 0) fun k144 =>
(if x138 = 1 then
b1 (fX10_count M139 (10 + x128)) fun x148 =>
(if x148 = (-x136) then
b1 (fX10_count M139 (20 + x128)) fun x151 =>
(if x151 = x136 then
k140 1
else
k144 ())
else
k144 ())
else
k144 ()))))
def fL_build (L : Nat) (xs : Nat → Int32) (M : Mm) (w2 : Int32) : Option (Int32 × Mm) :=
b2 (fX10_variables M w2) fun x2 M3 =>
bd (fun (M6 : Mm) (x7 : Int32) =>
b1 (fL_cell L xs 1) fun x9 =>
b1 (fL_low x9 7) fun x11 =>
b2 (itr (fL_build_L66 x11 L xs w2) 1000 (x7, 0, M6)) fun x59 M60 =>
b2 (itr (fL_build_L221 L xs w2) 1000 (x59, 0, M60)) fun x125 M126 =>
b2 (itr (fL_build_L420 w2 L xs) 1000 (x125, 0, M126)) fun x154 M155 =>
b1 (fL_cell L xs 20) fun x157 =>
bd (fun (M160 : Mm) (x161 : Int32) =>
(if x161 = 0 then
some ((0 : Int32), M160)
else
b1 (fL_low (x157 >>> (4 &&& 31)) 11) fun x164 =>
bd (fun (x167 : Int32) =>
bd (fun (x170 : Int32) =>
b1 (fL_low (x157 >>> (16 &&& 31)) 5) fun x172 =>
b2 (fX10_start M160 (x164 - 5) x167 x170 x172) fun x174 M175 =>
(if x174 = 1 then
some ((1 : Int32), M175)
else
some ((0 : Int32), M175))) fun k168 =>
(if w2 ≤ 2 then
k168 0
else
b1 (fL_low (x157 >>> (12 &&& 31)) 11) fun x179 =>
k168 (x179 - 5))) fun k165 =>
(if w2 ≤ 1 then
k165 0
else
b1 (fL_low (x157 >>> (8 &&& 31)) 11) fun x182 =>
k165 (x182 - 5)))) fun k158 =>
bd (fun (M185 : Mm) =>
k158 M185 0) fun k183 =>
(if x154 = 0 then
k183 M155
else
b1 (fL_low x157 3) fun x188 =>
b1 (fL_low (x157 >>> (2 &&& 31)) 2) fun x190 =>
b2 (fX10_order M155 x188 x190) fun x192 M193 =>
(if x192 = 0 then
k158 M193 1
else
k183 M193))) fun k4 =>
bd (fun (M200 : Mm) =>
k4 M200 0) fun k198 =>
(if x2 = 2 then
b1 (fX10_count M3 0) fun x203 =>
(if x203 = w2 then
b1 (fX10_count M3 2) fun x206 =>
(if x206 = (2 * w2) then
b1 (fX10_count M3 1) fun x209 =>
(if x209 = 0 then
b2 (fX10_spans M3) fun x212 M213 =>
(if x212 = 1 then
k4 M213 1
else
k198 M213)
else
k198 M3)
else
k198 M3)
else
k198 M3)
else
k198 M3)
def fX10_directionOf (M : Mm) (w1 : Int32) (w2 : Int32) : Option (Int32) :=
(if w1 < 0 then
some (-1000001 : Int32)
else
b1 (fX10_within w2 0 3) fun x3 =>
(if x3 = 0 then
some (-1000001 : Int32)
else
(if w1 < (M.1 8 0) then
(if w2 = 3 then
gd (inb w1 8) <|
some (M.1 10 (ix w1))
else
gd (inb ((3 * w1) + w2) 24) <|
some (M.1 9 (ix ((3 * w1) + w2))))
else
some (-1000004 : Int32))))
def fL_spans_L96 (M : Mm) (x4 : Int32) (x10 : Int32) (x19 : Int32) : (Int32 × Int32) → Option ((Int32 × Int32) ⊕ (Int32)) :=
u2 (fun (x27 : Int32) (x28 : Int32) =>
b1 (fX10_count M 2) fun x30 =>
(if x30 ≤ x28 then
some (Sum.inr x27)
else
(if x27 = 0 then
b1 (fX10_directionOf M x28 0) fun x34 =>
b1 (fX10_directionOf M x28 1) fun x36 =>
b1 (fX10_directionOf M x28 2) fun x38 =>
bd (fun (x41 : Int32) =>
bd (x28 + 1) fun x42 =>
some (Sum.inl (x41, x42))) fun k39 =>
(if (((x4 * x34) + (x10 * x36)) + (x19 * x38)) ≤ 0 then
k39 0
else
k39 1)
else
some (Sum.inr x27))))
def fL_spans_L57 (M : Mm) (x4 : Int32) (x10 : Int32) (x2 : Int32) : (Int32 × Int32) → Option ((Int32 × Int32) ⊕ (Int32)) :=
u2 (fun (x18 : Int32) (x19 : Int32) =>
bd (fun (x22 : Int32) =>
(if x22 < x19 then
some (Sum.inr x18)
else
bd (fun (x26 : Int32) =>
b1 (itr (fL_spans_L96 M x4 x10 x19) 1000 (x26, 0)) fun x45 =>
bd (fun (x48 : Int32) =>
bd (x19 + 1) fun x49 =>
some (Sum.inl (x48, x49))) fun k46 =>
bd (fun (_ : Unit) =>
k46 1) fun k50 =>
(if x18 = 0 then
(if x45 = 0 then
k50 ()
else
k46 0)
else
k50 ())) fun k24 =>
bd (fun (_ : Unit) =>
k24 0) fun k55 =>
(if x4 = 0 then
(if x10 = 0 then
(if x19 = 0 then
k24 1
else
k55 ())
else
k55 ())
else
k55 ()))) fun k20 =>
(if x2 ≤ 2 then
k20 0
else
k20 3))
def fL_spans_L29 (M : Mm) (x4 : Int32) (x2 : Int32) : (Int32 × Int32) → Option ((Int32 × Int32) ⊕ (Int32)) :=
u2 (fun (x9 : Int32) (x10 : Int32) =>
bd (fun (x13 : Int32) =>
(if x13 < x10 then
some (Sum.inr x9)
else
bd (fun (x17 : Int32) =>
b1 (itr (fL_spans_L57 M x4 x10 x2) 1000 (x9, x17)) fun x62 =>
bd (x10 + 1) fun x63 =>
some (Sum.inl (x62, x63))) fun k15 =>
(if x2 ≤ 2 then
k15 0
else
k15 (-3)))) fun k11 =>
(if x2 ≤ 1 then
k11 0
else
k11 3))
def fL_spans_L11 (M : Mm) (x2 : Int32) : (Int32 × Int32) → Option ((Int32 × Int32) ⊕ (Int32)) :=
u2 (fun (x3 : Int32) (x4 : Int32) =>
(if 3 < x4 then
some (Sum.inr x3)
else
bd (fun (x8 : Int32) =>
b1 (itr (fL_spans_L29 M x4 x2) 1000 (x3, x8)) fun x68 =>
bd (x4 + 1) fun x69 =>
some (Sum.inl (x68, x69))) fun k6 =>
(if x2 ≤ 1 then
k6 0
else
k6 (-3))))
def fL_spans (M : Mm) : Option (Int32 × Mm) :=
b1 (fX10_count M 0) fun x2 =>
b1 (itr (fL_spans_L11 M x2) 1000 (0, (-3))) fun x73 =>
(if x73 = 0 then
(if x2 = 3 then
some ((1 : Int32), M)
else
b2 (fX10_spans M) fun x77 M78 =>
(if x77 = 1 then
some ((1 : Int32), M78)
else
some ((0 : Int32), M78)))
else
b2 (fX10_spans M) fun x81 M82 =>
(if x81 = 0 then
some ((1 : Int32), M82)
else
some ((0 : Int32), M82)))
def fX10_searchOf (M : Mm) (w1 : Int32) : Option (Int32) :=
(if w1 = 0 then
gd (inb w1 3) <|
some (M.1 12 (ix w1))
else
(if w1 = 1 then
gd (inb w1 3) <|
some (M.1 12 (ix w1))
else
(if w1 = 2 then
gd (inb w1 3) <|
some (M.1 12 (ix w1))
else
(if w1 = 3 then
some (M.1 11 1)
else
(if w1 = 4 then
some (M.1 11 2)
else
(if w1 = 5 then
some (M.1 11 3)
else
(if w1 = 6 then
some (M.1 11 4)
else
(if w1 = 7 then
(if (M.1 11 5) = (-1) then
some (-1000004 : Int32)
else
some (M.1 11 5))
else
(if w1 = 8 then
some (M.1 11 6)
else
(if w1 = 9 then
b1 (fX10_oneIf (M.1 11 8)) fun x16 =>
some x16
else
some (-1000001 : Int32)))))))))))
def fX7_raised_L5 (w1 : Int32) (w0 : Int32) : (Int64 × Int32) → Option ((Int64 × Int32) ⊕ (Int64)) :=
u2 (fun (y1 : Int64) (x2 : Int32) =>
(if w1 ≤ x2 then
some (Sum.inr y1)
else
bd (y1 * w0.toInt64) fun y4 =>
bd (x2 + 1) fun x5 =>
some (Sum.inl (y4, x5))))
def fX7_raised (w0 : Int32) (w1 : Int32) : Option (Int64) :=
b1 (itr (fX7_raised_L5 w1 w0) 1000 (1, 0)) fun y7 =>
some y7
def fX7_sumAt_L6 (M : Mm) (w4 : Int32) (w1 : Int32) (w2 : Int32) (w3 : Int32) : (Int64 × Int32) → Option ((Int64 × Int32) ⊕ (Int64)) :=
u2 (fun (y1 : Int64) (x2 : Int32) =>
(if (M.1 2 0) ≤ x2 then
some (Sum.inr y1)
else
bd (3 * x2) fun x4 =>
gd (inb x4 30) <|
gd (inb (x4 + 1) 30) <|
gd (inb (x4 + 2) 30) <|
bd (((M.1 4 (ix x4)) + (M.1 4 (ix (x4 + 1)))) + (M.1 4 (ix (x4 + 2)))) fun x8 =>
bd (fun (y11 : Int64) =>
bd (x2 + 1) fun x12 =>
some (Sum.inl (y11, x12))) fun k9 =>
(if w4 < x8 then
k9 y1
else
gd (inb x2 10) <|
b1 (fX7_raised w1 (M.1 4 (ix x4))) fun y16 =>
b1 (fX7_raised w2 (M.1 4 (ix (x4 + 1)))) fun y18 =>
b1 (fX7_raised w3 (M.1 4 (ix (x4 + 2)))) fun y20 =>
bd (y1 + (((((M.1 3 (ix x2)).toInt64) * y16) * y18) * y20)) fun y21 =>
k9 y21)))
def fX7_sumAt (M : Mm) (w1 : Int32) (w2 : Int32) (w3 : Int32) (w4 : Int32) : Option (Int64) :=
b1 (itr (fX7_sumAt_L6 M w4 w1 w2 w3) 1000 (0, 0)) fun y23 =>
some y23
def fX3_consider (M : Mm) (w2 : Int32) (w3 : Int32) (w4 : Int32) : Option (Mm) :=
bd ((M.1 12 0) + (w2 * (M.1 11 1))) fun x1 =>
bd ((M.1 12 1) + (w3 * (M.1 11 1))) fun x2 =>
bd ((M.1 12 2) + (w4 * (M.1 11 1))) fun x3 =>
b1 (fX0_allow M x1 x2 x3) fun x5 =>
(if x5 = 0 then
some M
else
b1 (fX7_sumAt M x1 x2 x3 4) fun y8 =>
(if 0 ≤ (lg_cmp y8 (M.2 90 1)) then
some M
else
bd (stL M 90 1 y8) fun M10 =>
bd (stI M10 91 0 x1) fun M11 =>
bd (stI M11 91 1 x2) fun M12 =>
bd (stI M12 91 2 x3) fun M13 =>
some M13))
def fX3_findBest_L61 (x6 : Int32) (x9 : Int32) (x13 : Int32) : (Int32 × Mm) → Option ((Int32 × Mm) ⊕ (Mm)) :=
u2 (fun (x17 : Int32) (M18 : Mm) =>
(if x6 < x17 then
some (Sum.inr M18)
else
b1 (fX3_consider M18 x9 x13 x17) fun M21 =>
bd (x17 + 1) fun x22 =>
some (Sum.inl (x22, M21))))
def fX3_findBest_L50 (x3 : Int32) (x6 : Int32) (x9 : Int32) : (Int32 × Mm) → Option ((Int32 × Mm) ⊕ (Mm)) :=
u2 (fun (x13 : Int32) (M14 : Mm) =>
(if x3 < x13 then
some (Sum.inr M14)
else
bd (-x6) fun x16 =>
b1 (itr (fX3_findBest_L61 x6 x9 x13) 1000 (x16, M14)) fun M24 =>
bd (x13 + 1) fun x25 =>
some (Sum.inl (x25, M24))))
def fX3_findBest_L40 (w2 : Int32) (x3 : Int32) (x6 : Int32) : (Int32 × Mm) → Option ((Int32 × Mm) ⊕ (Mm)) :=
u2 (fun (x9 : Int32) (M10 : Mm) =>
(if w2 < x9 then
some (Sum.inr M10)
else
bd (-x3) fun x12 =>
b1 (itr (fX3_findBest_L50 x3 x6 x9) 1000 (x12, M10)) fun M28 =>
bd (x9 + 1) fun x29 =>
some (Sum.inl (x29, M28))))
def fX3_findBest (M : Mm) (w2 : Int32) : Option (Mm) :=
bd (fun (x3 : Int32) =>
bd (fun (x6 : Int32) =>
bd (stL M 90 1 20000000000) fun M7 =>
bd (-w2) fun x8 =>
b1 (itr (fX3_findBest_L40 w2 x3 x6) 1000 (x8, M7)) fun M32 =>
some M32) fun k4 =>
(if (M.1 1 0) ≤ 2 then
k4 0
else
k4 w2)) fun k1 =>
(if (M.1 1 0) ≤ 1 then
k1 0
else
k1 w2)
def fX10_around (M : Mm) (w1 : Int32) (w2 : Int32) : Option (Int32 × Mm) :=
b1 (fX10_within w1 0 3) fun x2 =>
(if x2 = 0 then
some ((-1000001 : Int32), M)
else
b1 (fX10_within w2 0 2) fun x5 =>
(if x5 = 0 then
some ((-1000001 : Int32), M)
else
b1 (fX6_placeIsAllowed M) fun x8 =>
(if x8 = 0 then
some ((-1000002 : Int32), M)
else
b1 (fX3_findBest M w1) fun M11 =>
gd (inb w2 3) <|
some (M11.1 91 (ix w2), M11))))
def fL_isAllowed (M : Mm) (w1 : Int32) (w2 : Int32) (w3 : Int32) : Option (Int32) :=
b1 (fX10_count M 0) fun x2 =>
b1 (fX10_count M 10) fun x4 =>
bd (fun (x7 : Int32) =>
bd (fun (x10 : Int32) =>
(if x10 = 0 then
some (0 : Int32)
else
(if 3 ≤ x2 then
b1 (fX10_count M 12) fun x14 =>
(if w3 < x14 then
some (0 : Int32)
else
b1 (fX10_count M 22) fun x17 =>
(if x17 < w3 then
some (0 : Int32)
else
some (1 : Int32)))
else
(if w3 = 0 then
some (1 : Int32)
else
some (0 : Int32))))) fun k8 =>
bd (fun (_ : Unit) =>
k8 0) fun k20 =>
(if x7 = 0 then
k20 ()
else
bd (fun (_ : Unit) =>
k8 1) fun k23 =>
(if 2 ≤ x2 then
b1 (fX10_count M 11) fun x27 =>
(if w2 < x27 then
k20 ()
else
b1 (fX10_count M 21) fun x30 =>
(if x30 < w2 then
k20 ()
else
k23 ()))
else
(if w2 = 0 then
k23 ()
else
k20 ())))) fun k5 =>
bd (fun (_ : Unit) =>
k5 0) fun k33 =>
(if w1 < x4 then
k33 ()
else
b1 (fX10_count M 20) fun x37 =>
(if x37 < w1 then
k33 ()
else
k5 1))
def fX10_value (M : Mm) (w1 : Int32) (w2 : Int32) (w3 : Int32) (w4 : Int32) : Option (Int64) :=
b1 (fX6_fit M w1 w2 w3 (-50) 50) fun x2 =>
(if x2 = 0 then
some (-1000001 : Int64)
else
b1 (fX10_within w4 0 1) fun x5 =>
(if x5 = 0 then
some (-1000001 : Int64)
else
bd (fun (x9 : Int32) =>
b1 (fX7_sumAt M w1 w2 w3 x9) fun y11 =>
some (20000000000 + y11)) fun k7 =>
(if w4 = 1 then
k7 2
else
k7 4)))
def fL_around_L76 (x12 : Int32) (M : Mm) (x2 : Int32) (x18 : Int32) (x25 : Int32) : (Int64 × Int32 × Int32 × Int32 × Int32) → Option ((Int64 × Int32 × Int32 × Int32 × Int32) ⊕ (Int64 × Int32 × Int32 × Int32)) :=
u5 (fun (y28 : Int64) (x29 : Int32) (x30 : Int32) (x31 : Int32) (x32 : Int32) =>
(if x12 < x32 then
some (Sum.inr (y28, x29, x30, x31))
else
b1 (fX10_searchOf M 0) fun x35 =>
bd (x35 + (x2 * x18)) fun x36 =>
b1 (fX10_searchOf M 1) fun x38 =>
bd (x38 + (x2 * x25)) fun x39 =>
b1 (fX10_searchOf M 2) fun x41 =>
bd (x41 + (x2 * x32)) fun x42 =>
b1 (fL_isAllowed M x36 x39 x42) fun x44 =>
bd (fun (y47 : Int64) (x48 : Int32) (x49 : Int32) (x50 : Int32) =>
bd (x32 + 1) fun x51 =>
some (Sum.inl (y47, x48, x49, x50, x51))) fun k45 =>
(if x44 = 0 then
k45 y28 x29 x30 x31
else
b1 (fX10_value M x36 x39 x42 0) fun y54 =>
(if 0 ≤ (lg_cmp y54 y28) then
k45 y28 x29 x30 x31
else
b1 (fX10_value M x36 x39 x42 0) fun y57 =>
k45 y57 x36 x39 x42))))
def fL_around_L65 (x7 : Int32) (x12 : Int32) (M : Mm) (x2 : Int32) (x18 : Int32) : (Int64 × Int32 × Int32 × Int32 × Int32) → Option ((Int64 × Int32 × Int32 × Int32 × Int32) ⊕ (Int64 × Int32 × Int32 × Int32)) :=
u5 (fun (y21 : Int64) (x22 : Int32) (x23 : Int32) (x24 : Int32) (x25 : Int32) =>
(if x7 < x25 then
some (Sum.inr (y21, x22, x23, x24))
else
bd (-x12) fun x27 =>
b4 (itr (fL_around_L76 x12 M x2 x18 x25) 1000 (y21, x22, x23, x24, x27)) fun y59 x60 x61 x62 =>
bd (x25 + 1) fun x63 =>
some (Sum.inl (y59, x60, x61, x62, x63))))
def fL_around_L55 (w1 : Int32) (x7 : Int32) (x12 : Int32) (M : Mm) (x2 : Int32) : (Int64 × Int32 × Int32 × Int32 × Int32) → Option ((Int64 × Int32 × Int32 × Int32 × Int32) ⊕ (Int32 × Int32 × Int32)) :=
u5 (fun (y14 : Int64) (x15 : Int32) (x16 : Int32) (x17 : Int32) (x18 : Int32) =>
(if w1 < x18 then
some (Sum.inr (x15, x16, x17))
else
bd (-x7) fun x20 =>
b4 (itr (fL_around_L65 x7 x12 M x2 x18) 1000 (y14, x15, x16, x17, x20)) fun y66 x67 x68 x69 =>
bd (x18 + 1) fun x70 =>
some (Sum.inl (y66, x67, x68, x69, x70))))
def fL_around (M : Mm) (w1 : Int32) : Option (Int32 × Mm) :=
b1 (fX10_searchOf M 3) fun x2 =>
b1 (fX10_count M 0) fun x4 =>
bd (fun (x7 : Int32) =>
b1 (fX10_count M 0) fun x9 =>
bd (fun (x12 : Int32) =>
bd (-w1) fun x13 =>
b3 (itr (fL_around_L55 w1 x7 x12 M x2) 1000 (40000000000, 0, 0, 0, x13)) fun x73 x74 x75 =>
b2 (fX10_around M w1 0) fun x77 M78 =>
(if x77 = x73 then
b2 (fX10_around M78 w1 1) fun x81 M82 =>
(if x81 = x74 then
b2 (fX10_around M82 w1 2) fun x85 M86 =>
(if x85 = x75 then
some ((1 : Int32), M86)
else
some ((0 : Int32), M86))
else
some ((0 : Int32), M82))
else
some ((0 : Int32), M78))) fun k10 =>
(if x9 ≤ 2 then
k10 0
else
k10 w1)) fun k5 =>
(if x4 ≤ 1 then
k5 0
else
k5 w1)
def fX6_canPoll (M : Mm) : Option (Int32) :=
b1 (fX6_placeIsAllowed M) fun x2 =>
(if x2 = 0 then
some (0 : Int32)
else
(if (M.1 8 0) ≤ 0 then
some (0 : Int32)
else
some (1 : Int32)))
def fX6_valueHere (M : Mm) : Option (Int64) :=
b1 (fX7_sumAt M (M.1 12 0) (M.1 12 1) (M.1 12 2) 4) fun y2 =>
some y2
def fX6_trialNumber (M : Mm) (w1 : Int32) (w2 : Int32) (w3 : Int32) : Option (Int32) :=
gd (inb w2 3) <|
gd (inb ((3 * w1) + w2) 24) <|
some ((M.1 12 (ix w2)) + (w3 * (M.1 9 (ix ((3 * w1) + w2)))))
def fX6_rankOf (M : Mm) (w1 : Int32) (w2 : Int32) (w3 : Int32) (w4 : Int32) : Option (Int64) :=
(if (M.1 1 1) = 1 then
(if w1 = (M.1 11 5) then
some (0 : Int64)
else
some (1 : Int64))
else
(if (M.1 1 1) = 2 then
b1 (fX7_sumAt M w2 w3 w4 2) fun y5 =>
some y5
else
some (0 : Int64)))
def fX9_insert_L16 (w2 : Int64) : (Int32 × Mm) → Option ((Int32 × Mm) ⊕ (Int32 × Mm)) :=
u2 (fun (x3 : Int32) (M4 : Mm) =>
(if x3 ≤ 0 then
some (Sum.inr (x3, M4))
else
gd (inb (x3 - 1) 8) <|
(if (lg_cmp (M4.2 88 (ix (x3 - 1))) w2) ≤ 0 then
some (Sum.inr (x3, M4))
else
gd (inb x3 8) <|
bd (stI M4 87 (ix x3) (M4.1 87 (ix (x3 - 1)))) fun M9 =>
bd (stL M9 88 (ix x3) (M9.2 88 (ix (x3 - 1)))) fun M10 =>
bd (stL M10 89 (ix x3) (M10.2 89 (ix (x3 - 1)))) fun M11 =>
bd (x3 + (-1)) fun x12 =>
some (Sum.inl (x12, M11)))))
def fX9_insert (M : Mm) (w1 : Int32) (w2 : Int64) (w3 : Int64) : Option (Mm) :=
(if (M.1 86 0) < 8 then
bd (M.1 86 0) fun x2 =>
b2 (itr (fX9_insert_L16 w2) 1000 (x2, M)) fun x14 M15 =>
gd (inb x14 8) <|
bd (stI M15 87 (ix x14) w1) fun M17 =>
bd (stL M17 88 (ix x14) w2) fun M18 =>
bd (stL M18 89 (ix x14) w3) fun M19 =>
bd (stI M19 86 0 ((M19.1 86 0) + 1)) fun M20 =>
some M20
else
some M)
def fX9_gather_L15 (w2 : Int32) : (Int32 × Mm) → Option ((Int32 × Mm) ⊕ (Mm)) :=
u2 (fun (x5 : Int32) (M6 : Mm) =>
(if (M6.1 8 0) ≤ x5 then
some (Sum.inr M6)
else
b1 (fX6_trialNumber M6 x5 0 w2) fun x9 =>
b1 (fX6_trialNumber M6 x5 1 w2) fun x11 =>
b1 (fX6_trialNumber M6 x5 2 w2) fun x13 =>
b1 (fX0_allow M6 x9 x11 x13) fun x15 =>
bd (fun (M18 : Mm) =>
bd (x5 + 1) fun x19 =>
some (Sum.inl (x19, M18))) fun k16 =>
(if x15 = 0 then
k16 M6
else
b1 (fX6_rankOf M6 x5 x9 x11 x13) fun y22 =>
b1 (fX7_sumAt M6 x9 x11 x13 4) fun y24 =>
b1 (fX9_insert M6 x5 y22 y24) fun M26 =>
k16 M26)))
def fX9_gather (M : Mm) (w2 : Int32) : Option (Mm) :=
bd (stI M 86 0 0) fun M1 =>
b1 (fX6_valueHere M1) fun y3 =>
bd (stL M1 86 4 y3) fun M4 =>
b1 (itr (fX9_gather_L15 w2) 1000 (0, M4)) fun M28 =>
some M28
def fX9_chooseBetter_L15 (w1 : Int32) : (Int32 × Int64 × Int32 × Mm) → Option ((Int32 × Int64 × Int32 × Mm) ⊕ ((Int32 × Mm) ⊕ (Int32 × Mm))) :=
u4 (fun (x3 : Int32) (y4 : Int64) (x5 : Int32) (M6 : Mm) =>
(if (M6.1 86 0) ≤ x5 then
some (Sum.inr (Sum.inr (x3, M6)))
else
bd (stI M6 86 5 ((M6.1 86 5) + 1)) fun M8 =>
gd (inb x5 8) <|
bd (fun (x12 : Int32) (y13 : Int64) =>
bd (x5 + 1) fun x14 =>
some (Sum.inl (x12, y13, x14, M8))) fun k10 =>
(if 0 ≤ (lg_cmp (M8.2 89 (ix x5)) y4) then
k10 x3 y4
else
bd (M8.1 87 (ix x5)) fun x16 =>
bd (M8.2 89 (ix x5)) fun y17 =>
(if w1 = 0 then
some (Sum.inr (Sum.inl (x16, M8)))
else
k10 x16 y17))))
def fX9_chooseBetter (M : Mm) (w1 : Int32) : Option (Int32 × Mm) :=
bd (M.2 86 4) fun y1 =>
bd (stI M 86 5 0) fun M2 =>
bs (itr (fX9_chooseBetter_L15 w1) 1000 ((-1), y1, 0, M2)) (u2 (fun (x20 : Int32) (M21 : Mm) =>
some (x20, M21))) (u2 (fun (x22 : Int32) (M23 : Mm) =>
some (x22, M23)))
def fX4_succeed (M : Mm) (w1 : Int32) (w2 : Int32) (w3 : Int32) (w4 : Int32) : Option (Mm) :=
bd (cpI M 13 0 13 3 15) fun M1 =>
bd (cpI M1 12 0 13 0 3) fun M2 =>
bd (stI M2 11 6 (if 6 < ((M2.1 11 6) + 1) then 6 else ((M2.1 11 6) + 1))) fun M3 =>
b1 (fX4_moveTo M3 w2 w3 w4) fun M5 =>
bd (stI M5 11 1 (if 16 < (2 * (M5.1 11 1)) then 16 else (2 * (M5.1 11 1)))) fun M6 =>
bd (stI M6 11 3 ((M6.1 11 3) + 1)) fun M7 =>
bd (stI M7 11 5 w1) fun M8 =>
bd (stI M8 11 8 0) fun M9 =>
some M9
def fX4_fail (M : Mm) : Option (Mm) :=
bd (fun (x3 : Int32) =>
gd (x3 = 0 ∨ x3 = 1) <|
bd (stI M 11 8 x3) fun M5 =>
bd (stI M5 11 1 (if ((M5.1 11 1) / 2) < 1 then 1 else ((M5.1 11 1) / 2))) fun M6 =>
some M6) fun k1 =>
(if (M.1 11 1) = 1 then
k1 1
else
k1 0)
def fX6_pollOnce (M : Mm) : Option (Int32 × Mm) :=
b1 (fX9_gather M (M.1 11 1)) fun M2 =>
b2 (fX9_chooseBetter M2 (M2.1 1 2)) fun x4 M5 =>
bd (stI M5 11 2 ((M5.1 11 2) + 1)) fun M6 =>
bd (stI M6 11 4 ((M6.1 11 4) + (M6.1 86 5))) fun M7 =>
(if x4 = (-1) then
b1 (fX4_fail M7) fun M21 =>
some ((-1 : Int32), M21)
else
bd (M7.1 11 1) fun x9 =>
gd (inb x4 8) <|
bd (stI M7 10 (ix x4) ((M7.1 10 (ix x4)) + 1)) fun M11 =>
b1 (fX6_trialNumber M11 x4 0 x9) fun x13 =>
b1 (fX6_trialNumber M11 x4 1 x9) fun x15 =>
b1 (fX6_trialNumber M11 x4 2 x9) fun x17 =>
b1 (fX4_succeed M11 x4 x13 x15 x17) fun M19 =>
some (x4, M19))
def fX10_run_L39 (w1 : Int32) : (Int32 × Mm) → Option ((Int32 × Mm) ⊕ (Int32 × Mm)) :=
u2 (fun (x9 : Int32) (M10 : Mm) =>
b2 (fX6_pollOnce M10) fun x12 M13 =>
bd (x9 + 1) fun x14 =>
(if w1 ≤ x14 then
some (Sum.inr (x14, M13))
else
(if (M13.1 11 8) = 0 then
some (Sum.inl (x14, M13))
else
some (Sum.inr (x14, M13)))))
def fX10_run (M : Mm) (w1 : Int32) : Option (Int32 × Mm) :=
b1 (fX10_within w1 1 60) fun x2 =>
(if x2 = 0 then
some ((-1000001 : Int32), M)
else
b1 (fX6_canPoll M) fun x5 =>
(if x5 = 0 then
some ((-1000002 : Int32), M)
else
b1 (fX2_push M) fun M8 =>
b2 (itr (fX10_run_L39 w1) 1000 (0, M8)) fun x18 M19 =>
some (x18, M19)))
def fX9_isBetter (M : Mm) (w1 : Int32) : Option (Int32) :=
gd (inb w1 8) <|
(if 0 ≤ (lg_cmp (M.2 89 (ix w1)) (M.2 86 4)) then
some (0 : Int32)
else
some (1 : Int32))
def fX9_noneIsBetter_L2 (M : Mm) : (Int32) → Option ((Int32) ⊕ ((Unit) ⊕ (Unit))) :=
fun (x1 : Int32) =>
(if (M.1 86 0) ≤ x1 then
some (Sum.inr (Sum.inr ()))
else
b1 (fX9_isBetter M x1) fun x4 =>
(if x4 = 0 then
bd (x1 + 1) fun x6 =>
some (Sum.inl x6)
else
some (Sum.inr (Sum.inl ()))))
def fX9_noneIsBetter (M : Mm) : Option (Int32) :=
bs (itr (fX9_noneIsBetter_L2 M) 1000 0) (fun (_ : Unit) =>
some (0 : Int32)) (fun (_ : Unit) =>
some (1 : Int32))
def fX10_stuck (M : Mm) (w1 : Int32) : Option (Int32 × Mm) :=
b1 (fX10_within w1 0 4) fun x2 =>
(if x2 = 0 then
some ((-1000001 : Int32), M)
else
b1 (fX6_placeIsAllowed M) fun x5 =>
(if x5 = 0 then
some ((-1000002 : Int32), M)
else
b1 (fX9_gather M (1 <<< (w1 &&& 31))) fun M8 =>
b1 (fX9_noneIsBetter M8) fun x10 =>
b1 (fX10_oneIf x10) fun x12 =>
some (x12, M8)))
def fL_here (M : Mm) : Option (Int64) :=
b1 (fX10_searchOf M 0) fun x2 =>
b1 (fX10_searchOf M 1) fun x4 =>
b1 (fX10_searchOf M 2) fun x6 =>
b1 (fX10_value M x2 x4 x6 0) fun y8 =>
some y8
def fX10_trialOf (M : Mm) (w1 : Int32) (w2 : Int32) : Option (Int32 × Mm) :=
(if w1 < 0 then
some ((-1000001 : Int32), M)
else
b1 (fX10_within w2 0 1) fun x3 =>
(if x3 = 0 then
some ((-1000001 : Int32), M)
else
b1 (fX9_gather M (M.1 11 1)) fun M6 =>
(if w1 < (M6.1 86 0) then
(if w2 = 0 then
gd (inb w1 8) <|
some (M6.1 87 (ix w1), M6)
else
b1 (fX9_isBetter M6 w1) fun x10 =>
b1 (fX10_oneIf x10) fun x12 =>
some (x12, M6))
else
some ((-1000004 : Int32), M6))))
def fL_at (M : Mm) (w1 : Int32) (w2 : Int32) : Option (Int32) :=
b1 (fX10_searchOf M w2) fun x2 =>
b1 (fX10_searchOf M 3) fun x4 =>
b1 (fX10_directionOf M w1 w2) fun x6 =>
some (x2 + (x4 * x6))
def fL_canTry (M : Mm) (w1 : Int32) : Option (Int32) :=
b1 (fL_at M w1 0) fun x2 =>
b1 (fL_at M w1 1) fun x4 =>
b1 (fL_at M w1 2) fun x6 =>
b1 (fL_isAllowed M x2 x4 x6) fun x8 =>
gd (x8 = 0 ∨ x8 = 1) <|
some x8
def fL_there (M : Mm) (w1 : Int32) (w2 : Int32) : Option (Int64) :=
b1 (fL_at M w1 0) fun x2 =>
b1 (fL_at M w1 1) fun x4 =>
b1 (fL_at M w1 2) fun x6 =>
b1 (fX10_value M x2 x4 x6 w2) fun y8 =>
some y8
def fL_trials_L16 : (Int32 × Int32 × Int32 × Int64 × Int32 × Mm) → Option ((Int32 × Int32 × Int32 × Int64 × Int32 × Mm) ⊕ ((Mm) ⊕ ((Mm) ⊕ (Int32 × Int32 × Int32 × Mm)))) :=
u6 (fun (x3 : Int32) (x4 : Int32) (x5 : Int32) (y6 : Int64) (x7 : Int32) (M8 : Mm) =>
b2 (fX10_trialOf M8 x3 0) fun x10 M11 =>
(if x10 < 0 then
some (Sum.inr (Sum.inr (Sum.inr (x4, x5, x7, M11))))
else
b2 (fX10_trialOf M11 x3 0) fun x14 M15 =>
b1 (fL_there M15 x14 0) fun y17 =>
b1 (fL_here M15) fun y19 =>
bd (fun (x22 : Int32) =>
b1 (fL_canTry M15 x14) fun x24 =>
(if x24 = 0 then
some (Sum.inr (Sum.inl M15))
else
(if ((x7 >>> (x14 &&& 31)) &&& 1) = 1 then
some (Sum.inr (Sum.inl M15))
else
b2 (fX10_trialOf M15 x3 1) fun x28 M29 =>
bd (fun (x32 : Int32) =>
(if x28 = x32 then
b1 (fX10_count M29 3) fun x35 =>
bd (fun (x38 : Int32) =>
bd (fun (x41 : Int32) =>
(if x41 = 0 then
some (Sum.inr (Sum.inr (Sum.inl M29)))
else
bd (fun (_ : Unit) =>
bd (fun (x47 : Int32) =>
bd (fun (x50 : Int32) =>
bd (x5 + x50) fun x51 =>
bd (fun (x54 : Int32) (y55 : Int64) =>
gd (inb x3 8) <|
bd (stI M29 95 (ix x3) x14) fun M57 =>
bd (x7 ||| (1 <<< (x14 &&& 31))) fun x58 =>
bd (x3 + 1) fun x59 =>
some (Sum.inl (x59, x54, x51, y55, x58, M57))) fun k52 =>
(if x47 = 0 then
k52 x4 y6
else
b1 (fL_there M29 x14 0) fun y62 =>
(if 0 ≤ (lg_cmp y62 y6) then
k52 x4 y6
else
b1 (fL_there M29 x14 0) fun y65 =>
k52 x14 y65))) fun k48 =>
(if x47 = 0 then
k48 0
else
k48 1)) fun k45 =>
bd (fun (_ : Unit) =>
k45 1) fun k67 =>
(if x4 < 0 then
k67 ()
else
b1 (fX10_count M29 4) fun x71 =>
(if x71 = 1 then
k67 ()
else
k45 0))) fun k43 =>
(if x38 = 0 then
k43 ()
else
(if x3 ≤ 0 then
k43 ()
else
some (Sum.inr (Sum.inr (Sum.inl M29))))))) fun k39 =>
bd (fun (_ : Unit) =>
k39 1) fun k75 =>
(if x3 = 0 then
k75 ()
else
b1 (fX10_count M29 3) fun x79 =>
bd (fun (_ : Unit) =>
k39 0) fun k80 =>
(if x79 = 2 then
gd (inb (x3 - 1) 8) <|
b1 (fL_there M29 (M29.1 95 (ix (x3 - 1))) 1) fun y96 =>
b1 (fL_there M29 x14 1) fun y98 =>
(if (lg_cmp y96 y98) < 0 then
k75 ()
else
b1 (fL_there M29 (M29.1 95 (ix (x3 - 1))) 1) fun y101 =>
b1 (fL_there M29 x14 1) fun y103 =>
(if (lg_cmp y101 y103) = 0 then
(if x14 ≤ (M29.1 95 (ix (x3 - 1))) then
k80 ()
else
k75 ())
else
k80 ()))
else
bd (fun (_ : Unit) =>
gd (inb (x3 - 1) 8) <|
(if x14 ≤ (M29.1 95 (ix (x3 - 1))) then
k80 ()
else
k75 ())) fun k83 =>
(if x3 = 1 then
b1 (fX10_count M29 3) fun x89 =>
(if x89 = 1 then
b1 (fX10_searchOf M29 7) fun x92 =>
(if (M29.1 95 0) = x92 then
k75 ()
else
k83 ())
else
k83 ())
else
k83 ())))) fun k36 =>
bd (fun (_ : Unit) =>
k36 0) fun k106 =>
(if x35 = 1 then
b1 (fX10_searchOf M29 7) fun x110 =>
(if x14 = x110 then
k36 1
else
k106 ())
else
k106 ())
else
some (Sum.inr (Sum.inl M29)))) fun k30 =>
(if x22 = 0 then
k30 0
else
k30 1)))) fun k20 =>
(if 0 ≤ (lg_cmp y17 y19) then
k20 0
else
k20 1)))
def fL_trials_L338 (M120 : Mm) (x119 : Int32) : (Int32) → Option ((Int32) ⊕ ((Unit) ⊕ (Unit))) :=
fun (x121 : Int32) =>
b1 (fX10_count M120 2) fun x123 =>
(if x123 ≤ x121 then
some (Sum.inr (Sum.inr ()))
else
b1 (fL_canTry M120 x121) fun x126 =>
bd (fun (x129 : Int32) =>
(if x126 = x129 then
bd (x121 + 1) fun x131 =>
some (Sum.inl x131)
else
some (Sum.inr (Sum.inl ())))) fun k127 =>
(if ((x119 >>> (x121 &&& 31)) &&& 1) = 1 then
k127 1
else
k127 0))
def fL_trials (M : Mm) : Option (Int32 × Mm) :=
b1 (fL_here M) fun y2 =>
bs3 (itr (fL_trials_L16) 1000 (0, (-1), 0, y2, 0, M)) (fun (M115 : Mm) =>
some ((-1 : Int32), M115)) (fun (M116 : Mm) =>
some ((-1 : Int32), M116)) (u4 (fun (x117 : Int32) (x118 : Int32) (x119 : Int32) (M120 : Mm) =>
bs (itr (fL_trials_L338 M120 x119) 1000 0) (fun (_ : Unit) =>
some ((-1 : Int32), M120)) (fun (_ : Unit) =>
some (((100 * x118) + x117) + 1, M120))))
def fX10_poll (M : Mm) : Option (Int32 × Mm) :=
b1 (fX6_canPoll M) fun x2 =>
(if x2 = 0 then
some ((-1000002 : Int32), M)
else
b1 (fX2_push M) fun M5 =>
b2 (fX6_pollOnce M5) fun x7 M8 =>
some (x7, M8))
def fX10_leftAt (M : Mm) (w1 : Int32) (w2 : Int32) : Option (Int32) :=
(if w1 < 0 then
some (-1000001 : Int32)
else
b1 (fX6_hasVariable M w2) fun x3 =>
(if x3 = 0 then
some (-1000001 : Int32)
else
(if w1 < (M.1 11 6) then
gd (inb ((3 * w1) + w2) 18) <|
some (M.1 13 (ix ((3 * w1) + w2)))
else
some (-1000004 : Int32))))
def fL_poll (M : Mm) : Option (Int32 × Mm) :=
b2 (fL_trials M) fun x2 M3 =>
b1 (fX10_searchOf M3 3) fun x5 =>
bd (fun (x8 : Int32) =>
b2 (fX10_stuck M3 x8) fun x10 M11 =>
(if 0 ≤ x2 then
bd ((rm x2 100) - 1) fun x13 =>
b1 (fX10_searchOf M11 4) fun x15 =>
b1 (fX10_searchOf M11 5) fun x17 =>
b1 (fX10_searchOf M11 6) fun x19 =>
b1 (fX10_searchOf M11 8) fun x21 =>
b1 (fX10_searchOf M11 0) fun x23 =>
b1 (fX10_searchOf M11 1) fun x25 =>
b1 (fX10_searchOf M11 2) fun x27 =>
bd (fun (x30 : Int32) =>
bd (fun (x33 : Int32) =>
bd (fun (x36 : Int32) =>
bd (fun (x39 : Int32) =>
b1 (fL_here M11) fun y41 =>
bd (fun (x44 : Int32) =>
(if x10 = x44 then
b2 (fX10_poll M11) fun x47 M48 =>
(if x47 = x13 then
b1 (fX10_searchOf M48 4) fun x51 =>
(if x51 = (x15 + 1) then
b1 (fX10_searchOf M48 6) fun x54 =>
(if x54 = (x19 + (x2 / 100)) then
b1 (fX10_searchOf M48 0) fun x57 =>
(if x57 = x30 then
b1 (fX10_searchOf M48 1) fun x60 =>
(if x60 = x33 then
b1 (fX10_searchOf M48 2) fun x63 =>
(if x63 = x36 then
(if 0 ≤ x13 then
b1 (fX10_searchOf M48 3) fun x67 =>
bd (fun (x70 : Int32) =>
bd (fun (x73 : Int32) =>
(if x73 = 0 then
some ((0 : Int32), M48)
else
b1 (fX10_directionOf M48 x13 3) fun x76 =>
(if x76 = (x39 + 1) then
b1 (fX10_leftAt M48 0 0) fun x79 =>
(if x79 = x23 then
b1 (fX10_count M48 0) fun x82 =>
bd (fun (_ : Unit) =>
b1 (fX10_count M48 0) fun x86 =>
(if x86 < 3 then
some ((1 : Int32), M48)
else
b1 (fX10_leftAt M48 0 2) fun x89 =>
(if x89 = x27 then
some ((1 : Int32), M48)
else
some ((0 : Int32), M48)))) fun k83 =>
(if x82 < 2 then
k83 ()
else
b1 (fX10_leftAt M48 0 1) fun x93 =>
(if x93 = x25 then
k83 ()
else
some ((0 : Int32), M48)))
else
some ((0 : Int32), M48))
else
some ((0 : Int32), M48)))) fun k71 =>
bd (fun (_ : Unit) =>
k71 0) fun k95 =>
(if x67 = x70 then
b1 (fX10_searchOf M48 5) fun x99 =>
(if x99 = (x17 + 1) then
b1 (fX10_searchOf M48 7) fun x102 =>
(if x102 = x13 then
b1 (fX10_searchOf M48 8) fun x105 =>
bd (fun (x108 : Int32) =>
(if x105 = x108 then
b1 (fX10_searchOf M48 9) fun x111 =>
(if x111 = 0 then
b1 (fL_here M48) fun y114 =>
(if 0 ≤ (lg_cmp y114 y41) then
k95 ()
else
k71 1)
else
k95 ())
else
k95 ())) fun k106 =>
(if 6 ≤ x21 then
k106 6
else
k106 (x21 + 1))
else
k95 ())
else
k95 ())
else
k95 ())) fun k68 =>
(if x5 = 16 then
k68 16
else
k68 (2 * x5))
else
b1 (fX10_searchOf M48 3) fun x119 =>
bd (fun (x122 : Int32) =>
(if x119 = x122 then
b1 (fX10_searchOf M48 5) fun x125 =>
(if x125 = x17 then
b1 (fX10_searchOf M48 8) fun x128 =>
(if x128 = x21 then
b1 (fX10_searchOf M48 9) fun x131 =>
bd (fun (x134 : Int32) =>
(if x131 = x134 then
b1 (fL_here M48) fun y137 =>
(if (lg_cmp y137 y41) = 0 then
some ((1 : Int32), M48)
else
some ((0 : Int32), M48))
else
some ((0 : Int32), M48))) fun k132 =>
(if x5 = 1 then
k132 1
else
k132 0)
else
some ((0 : Int32), M48))
else
some ((0 : Int32), M48))
else
some ((0 : Int32), M48))) fun k120 =>
(if x5 = 1 then
k120 1
else
k120 (x5 / 2)))
else
some ((0 : Int32), M48))
else
some ((0 : Int32), M48))
else
some ((0 : Int32), M48))
else
some ((0 : Int32), M48))
else
some ((0 : Int32), M48))
else
some ((0 : Int32), M48))
else
some ((0 : Int32), M11))) fun k42 =>
(if 0 ≤ x13 then
k42 0
else
k42 1)) fun k37 =>
(if 0 ≤ x13 then
b1 (fX10_directionOf M11 x13 3) fun x144 =>
k37 x144
else
k37 0)) fun k34 =>
(if 0 ≤ x13 then
b1 (fL_at M11 x13 2) fun x147 =>
k34 x147
else
k34 x27)) fun k31 =>
(if 0 ≤ x13 then
b1 (fL_at M11 x13 1) fun x150 =>
k31 x150
else
k31 x25)) fun k28 =>
(if 0 ≤ x13 then
b1 (fL_at M11 x13 0) fun x153 =>
k28 x153
else
k28 x23)
else
some ((0 : Int32), M11))) fun k6 =>
(if x5 = 1 then
k6 0
else
(if x5 = 2 then
k6 1
else
(if x5 = 4 then
k6 2
else
(if x5 = 8 then
k6 3
else
k6 4))))
def fL_law_L140 : (Int32 × Mm) → Option ((Int32 × Mm) ⊕ ((Mm) ⊕ (Mm))) :=
u2 (fun (x31 : Int32) (M32 : Mm) =>
(if 10 ≤ x31 then
some (Sum.inr (Sum.inr M32))
else
b2 (fL_poll M32) fun x35 M36 =>
(if x35 = 0 then
some (Sum.inr (Sum.inl M36))
else
bd (x31 + 1) fun x38 =>
some (Sum.inl (x38, M36)))))
def fL_law (L : Nat) (xs : Nat → Int32) (M : Mm) : Option (Int32 × Mm) :=
b1 (fL_cell L xs 0) fun x2 =>
b1 (fL_low x2 3) fun x4 =>
bd (1 + x4) fun x5 =>
b2 (fL_build L xs M x5) fun x7 M8 =>
(if x7 = 0 then
some ((0 : Int32), M8)
else
b2 (fL_spans M8) fun x11 M12 =>
(if x11 = 0 then
some ((0 : Int32), M12)
else
b1 (fL_cell L xs 21) fun x15 =>
b1 (fL_low x15 3) fun x17 =>
b2 (fL_around M12 x17) fun x19 M20 =>
(if x19 = 0 then
some ((0 : Int32), M20)
else
b1 (fX10_count M20 2) fun x23 =>
(if x23 = 0 then
b2 (fX10_poll M20) fun x98 M99 =>
(if x98 = (-1000002) then
b2 (fX10_run M99 5) fun x102 M103 =>
(if x102 = (-1000002) then
b2 (fX10_stuck M103 0) fun x106 M107 =>
(if x106 = 1 then
b2 (fX10_spans M107) fun x110 M111 =>
(if x110 = 0 then
some ((1 : Int32), M111)
else
some ((0 : Int32), M111))
else
some ((0 : Int32), M107))
else
some ((0 : Int32), M103))
else
some ((0 : Int32), M99))
else
b1 (fX10_value M20 0 0 0 1) fun y26 =>
(if (lg_cmp y26 19999999000) < 0 then
some ((0 : Int32), M20)
else
b1 (fX10_searchOf M20 7) fun x29 =>
(if x29 = (-1000004) then
bs (itr (fL_law_L140) 1000 (0, M20)) (fun (M40 : Mm) =>
some ((0 : Int32), M40)) (fun (M41 : Mm) =>
b1 (fX10_searchOf M41 4) fun x43 =>
b1 (fL_cell L xs 22) fun x45 =>
b1 (fL_low x45 60) fun x47 =>
bd (1 + x47) fun x48 =>
b2 (fX10_run M41 x48) fun x50 M51 =>
(if x50 < 1 then
some ((0 : Int32), M51)
else
(if x48 < x50 then
some ((0 : Int32), M51)
else
b1 (fX10_searchOf M51 4) fun x55 =>
(if x55 = (x43 + x50) then
bd (fun (_ : Unit) =>
b1 (fX10_searchOf M51 9) fun x60 =>
bd (fun (M63 : Mm) (x64 : Int32) =>
(if x64 = 0 then
some ((0 : Int32), M63)
else
b1 (fL_cell L xs 23) fun x67 =>
b1 (fL_low x67 3) fun x69 =>
b2 (fL_around M63 x69) fun x71 M72 =>
(if x71 = 0 then
some ((0 : Int32), M72)
else
some ((1 : Int32), M72)))) fun k61 =>
bd (fun (M76 : Mm) =>
k61 M76 1) fun k74 =>
(if x60 = 0 then
k74 M51
else
b1 (fX10_searchOf M51 3) fun x79 =>
bd (fun (M82 : Mm) =>
k61 M82 0) fun k80 =>
(if x79 = 1 then
b2 (fX10_stuck M51 0) fun x85 M86 =>
(if x85 = 1 then
b2 (fX10_run M86 7) fun x89 M90 =>
(if x89 = 1 then
k74 M90
else
k80 M90)
else
k80 M86)
else
k80 M51))) fun k57 =>
(if x48 ≤ x50 then
k57 ()
else
b1 (fX10_searchOf M51 9) fun x94 =>
(if x94 = 1 then
k57 ()
else
some ((0 : Int32), M51)))
else
some ((0 : Int32), M51)))))
else
some ((0 : Int32), M20)))))))
