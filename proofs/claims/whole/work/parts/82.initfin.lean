/-- the states that the constructors leave -/
def iE : St := (fun k => match k with | 0 => -1 | 10 => -1 | 16 => -1 | _ => 0, fun _ _ => 0)
def iM : St := (fun k => match k with | 6 => -1 | _ => 0, fun _ _ => 0)
set_option maxHeartbeats 4000000 in
set_option maxRecDepth 100000 in
theorem finX10 {D : va_G} {A : Nat → Prop} {s : State} {cI cZ : ClassId} {H : Heap} {locs : List Loc} {h0 z1 u2_0 u2_1 u2_2 u2_3 u2_4 z3 u4 z5 u6_0 u6_1 u6_2 u6_3 u6_4 z7 u8_0 u8_1 z9 u10 z11 u12_0 u12_1 u12_2 z13 u14_0 u14_1 z15 u16_0 u16_1 z17 u18_0 u18_1 u18_2 u18_3 z19 z21 u22 : Nat} : Wd D A s [(h0, .inr (10, [.ref z3, .ref z1, .ref z5, .ref z7, .ref z9, .ref z11, .ref z13, .ref z15, .ref z17, .ref z19, .ref z21, .int (zI (-1)), .int (zI 0)])), (z1, .inr (8, [.int (zI 0), .int (zI 0), .int (zI 0), .int (zI 0), .int (zI 0), .ref u2_0, .ref u2_1, .ref u2_2, .ref u2_3, .ref u2_4])), (u2_0, .inl (cI, 7, .inl (fun _ => zI 0))), (u2_1, .inl (cI, 7, .inl (fun _ => zI 0))), (u2_2, .inl (cI, 7, .inl (fun _ => zI 0))), (u2_3, .inl (cI, 5, .inl (fun _ => zI 0))), (u2_4, .inl (cI, 5, .inl (fun _ => zI 0))), (z3, .inr (9, [.ref u4, .int (zI 0), .int (zI 0), .int (zI 0), .int (zI (-1))])), (u4, .inl (cI, 240, .inl (fun _ => zI 0))), (z5, .inr (8, [.int (zI 0), .int (zI 0), .int (zI 0), .int (zI 0), .int (zI 0), .ref u6_0, .ref u6_1, .ref u6_2, .ref u6_3, .ref u6_4])), (u6_0, .inl (cI, 7, .inl (fun _ => zI 0))), (u6_1, .inl (cI, 7, .inl (fun _ => zI 0))), (u6_2, .inl (cI, 7, .inl (fun _ => zI 0))), (u6_3, .inl (cI, 5, .inl (fun _ => zI 0))), (u6_4, .inl (cI, 5, .inl (fun _ => zI 0))), (z7, .inr (4, [.ref z1, .ref u8_0, .ref u8_1, .int (zI (-1)), .int (zI 0), .int (zI 0), .int (zI 0), .int (zI 0), .int (zI 0)])), (u8_0, .inl (cI, 7, .inl (fun _ => zI 0))), (u8_1, .inl (cI, 7, .inl (fun _ => zI 0))), (z9, .inr (5, [.ref u10, .int (zI 0), .int (zI 0)])), (u10, .inl (cI, 400, .inl (fun _ => zI 0))), (z11, .inr (3, [.ref u12_0, .ref u12_1, .ref u12_2])), (u12_0, .inl (cI, 40, .inl (fun _ => zI 0))), (u12_1, .inl (cI, 2, .inl (fun _ => zI 0))), (u12_2, .inl (cZ, 2, .inl (fun _ => zI 0))), (z13, .inr (2, [.ref u14_0, .ref u14_1, .int (zI 0)])), (u14_0, .inl (cI, 6, .inl (fun _ => zI 0))), (u14_1, .inl (cI, 6, .inl (fun _ => zI 0))), (z15, .inr (1, [.ref u16_0, .ref u16_1, .int (zI 0)])), (u16_0, .inl (cI, 15, .inl (fun _ => zI 0))), (u16_1, .inl (cI, 15, .inl (fun _ => zI 0))), (z17, .inr (0, [.ref u18_0, .ref u18_1, .ref u18_2, .ref u18_3, .int (zI 0), .int (zI 0)])), (u18_0, .inl (cI, 7, .inl (fun _ => zI 0))), (u18_1, .inl (cI, 3, .inl (fun _ => zI 0))), (u18_2, .inl (cI, 7, .inl (fun _ => zI 0))), (u18_3, .inl (cI, 7, .inl (fun _ => zI 0))), (z19, .inr (7, [.int (zI 0), .int (zI 0), .int (zI 0)])), (z21, .inr (6, [.ref u22])), (u22, .inl (cI, 5, .inl (fun _ => zI 0)))] H locs → ∃ q : Nat → Nat, q 0 = h0 ∧ Wd D A s (wE q cI cZ iE) H locs := by
  obtain ⟨q, e0, e1, e2, e3, e4, e5, e6, e7, e8, e9, e10, e11, e12, e13, e14, e15, e16, e17, e18, e19, e20, e21, e22, e23, e24, e25, e26, e27, e28, e29, e30, e31, e32, e33, e34, e35, e36, e37⟩ : ∃ q : Nat → Nat, q 0 = h0 ∧ q 1 = z1 ∧ q 2 = u2_0 ∧ q 3 = u2_1 ∧ q 4 = u2_2 ∧ q 5 = u2_3 ∧ q 6 = u2_4 ∧ q 7 = z3 ∧ q 8 = u4 ∧ q 9 = z5 ∧ q 10 = u6_0 ∧ q 11 = u6_1 ∧ q 12 = u6_2 ∧ q 13 = u6_3 ∧ q 14 = u6_4 ∧ q 15 = z7 ∧ q 16 = u8_0 ∧ q 17 = u8_1 ∧ q 18 = z9 ∧ q 19 = u10 ∧ q 20 = z11 ∧ q 21 = u12_0 ∧ q 22 = u12_1 ∧ q 23 = u12_2 ∧ q 24 = z13 ∧ q 25 = u14_0 ∧ q 26 = u14_1 ∧ q 27 = z15 ∧ q 28 = u16_0 ∧ q 29 = u16_1 ∧ q 30 = z17 ∧ q 31 = u18_0 ∧ q 32 = u18_1 ∧ q 33 = u18_2 ∧ q 34 = u18_3 ∧ q 35 = z19 ∧ q 36 = z21 ∧ q 37 = u22 := ⟨fun k => match k with | 0 => h0 | 1 => z1 | 2 => u2_0 | 3 => u2_1 | 4 => u2_2 | 5 => u2_3 | 6 => u2_4 | 7 => z3 | 8 => u4 | 9 => z5 | 10 => u6_0 | 11 => u6_1 | 12 => u6_2 | 13 => u6_3 | 14 => u6_4 | 15 => z7 | 16 => u8_0 | 17 => u8_1 | 18 => z9 | 19 => u10 | 20 => z11 | 21 => u12_0 | 22 => u12_1 | 23 => u12_2 | 24 => z13 | 25 => u14_0 | 26 => u14_1 | 27 => z15 | 28 => u16_0 | 29 => u16_1 | 30 => z17 | 31 => u18_0 | 32 => u18_1 | 33 => u18_2 | 34 => u18_3 | 35 => z19 | 36 => z21 | _ => u22, rfl, rfl, rfl, rfl, rfl, rfl, rfl, rfl, rfl, rfl, rfl, rfl, rfl, rfl, rfl, rfl, rfl, rfl, rfl, rfl, rfl, rfl, rfl, rfl, rfl, rfl, rfl, rfl, rfl, rfl, rfl, rfl, rfl, rfl, rfl, rfl, rfl, rfl⟩
  subst e0
  subst e1
  subst e2
  subst e3
  subst e4
  subst e5
  subst e6
  subst e7
  subst e8
  subst e9
  subst e10
  subst e11
  subst e12
  subst e13
  subst e14
  subst e15
  subst e16
  subst e17
  subst e18
  subst e19
  subst e20
  subst e21
  subst e22
  subst e23
  subst e24
  subst e25
  subst e26
  subst e27
  subst e28
  subst e29
  subst e30
  subst e31
  subst e32
  subst e33
  subst e34
  subst e35
  subst e36
  subst e37
  exact fun h => ⟨q, rfl, h⟩
set_option maxHeartbeats 4000000 in
set_option maxRecDepth 100000 in
theorem finX11 {D : va_G} {A : Nat → Prop} {s : State} {cI cZ : ClassId} {H : Heap} {locs : List Loc} {h0 z1 z2 z3 z4 z5 z6 z7 z8 z9 z10 z11 z12 z13 z14 z15 z16 z17 z18 z19 z20 z21 z22 z23 z24 z25 : Nat} : Wd D A s [(h0, .inr (11, [.int (zI 0), .int (zI 0), .int (zI 0), .ref z1, .ref z2, .int (zI 0), .ref z3, .ref z4, .ref z5, .ref z6, .int (zI 0), .ref z7, .int (zI 0), .int (zI (-1)), .int (zI 0), .int (zI 0), .int (zI 0), .ref z8, .int (zI 0), .ref z9, .ref z10, .int (zI 0), .ref z11, .ref z12, .int (zI 0), .ref z13, .ref z14, .ref z15, .ref z16, .ref z17, .ref z18, .int (zI 0), .ref z19, .ref z20, .ref z21, .int (zI 0), .ref z22, .ref z23, .ref z24, .ref z25])), (z1, .inl (cI, 7, .inl (fun _ => zI 0))), (z2, .inl (cI, 7, .inl (fun _ => zI 0))), (z3, .inl (cI, 5, .inl (fun _ => zI 0))), (z4, .inl (cI, 5, .inl (fun _ => zI 0))), (z5, .inl (cI, 7, .inl (fun _ => zI 0))), (z6, .inl (cI, 19, .inl (fun _ => zI 0))), (z7, .inl (cI, 240, .inl (fun _ => zI 0))), (z8, .inl (cI, 3, .inl (fun _ => zI 0))), (z9, .inl (cI, 7, .inl (fun _ => zI 0))), (z10, .inl (cI, 7, .inl (fun _ => zI 0))), (z11, .inl (cI, 5, .inl (fun _ => zI 0))), (z12, .inl (cI, 5, .inl (fun _ => zI 0))), (z13, .inl (cI, 380, .inl (fun _ => zI 0))), (z14, .inl (cI, 7, .inl (fun _ => zI 0))), (z15, .inl (cI, 7, .inl (fun _ => zI 0))), (z16, .inl (cI, 3, .inl (fun _ => zI 0))), (z17, .inl (cI, 5, .inl (fun _ => zI 0))), (z18, .inl (cI, 5, .inl (fun _ => zI 0))), (z19, .inl (cI, 6, .inl (fun _ => zI 0))), (z20, .inl (cI, 6, .inl (fun _ => zI 0))), (z21, .inl (cI, 31, .inl (fun _ => zI 0))), (z22, .inl (cI, 15, .inl (fun _ => zI 0))), (z23, .inl (cI, 15, .inl (fun _ => zI 0))), (z24, .inl (cI, 40, .inl (fun _ => zI 0))), (z25, .inl (cZ, 2, .inl (fun _ => zI 0)))] H locs → ∃ q : Nat → Nat, q 0 = h0 ∧ Wd D A s (wM q cI cZ iM) H locs := by
  obtain ⟨q, e0, e1, e2, e3, e4, e5, e6, e7, e8, e9, e10, e11, e12, e13, e14, e15, e16, e17, e18, e19, e20, e21, e22, e23, e24, e25⟩ : ∃ q : Nat → Nat, q 0 = h0 ∧ q 1 = z1 ∧ q 2 = z2 ∧ q 3 = z3 ∧ q 4 = z4 ∧ q 5 = z5 ∧ q 6 = z6 ∧ q 7 = z7 ∧ q 8 = z8 ∧ q 9 = z9 ∧ q 10 = z10 ∧ q 11 = z11 ∧ q 12 = z12 ∧ q 13 = z13 ∧ q 14 = z14 ∧ q 15 = z15 ∧ q 16 = z16 ∧ q 17 = z17 ∧ q 18 = z18 ∧ q 19 = z19 ∧ q 20 = z20 ∧ q 21 = z21 ∧ q 22 = z22 ∧ q 23 = z23 ∧ q 24 = z24 ∧ q 25 = z25 := ⟨fun k => match k with | 0 => h0 | 1 => z1 | 2 => z2 | 3 => z3 | 4 => z4 | 5 => z5 | 6 => z6 | 7 => z7 | 8 => z8 | 9 => z9 | 10 => z10 | 11 => z11 | 12 => z12 | 13 => z13 | 14 => z14 | 15 => z15 | 16 => z16 | 17 => z17 | 18 => z18 | 19 => z19 | 20 => z20 | 21 => z21 | 22 => z22 | 23 => z23 | 24 => z24 | _ => z25, rfl, rfl, rfl, rfl, rfl, rfl, rfl, rfl, rfl, rfl, rfl, rfl, rfl, rfl, rfl, rfl, rfl, rfl, rfl, rfl, rfl, rfl, rfl, rfl, rfl, rfl⟩
  subst e0
  subst e1
  subst e2
  subst e3
  subst e4
  subst e5
  subst e6
  subst e7
  subst e8
  subst e9
  subst e10
  subst e11
  subst e12
  subst e13
  subst e14
  subst e15
  subst e16
  subst e17
  subst e18
  subst e19
  subst e20
  subst e21
  subst e22
  subst e23
  subst e24
  subst e25
  exact fun h => ⟨q, rfl, h⟩
