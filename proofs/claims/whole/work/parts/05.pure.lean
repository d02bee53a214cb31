def pX10_isWithin_0 (x0 : Int) (x1 : Int) (x2 : Int) : Option (Int) :=
  gd (rg x0 ∧ rg x1) (
  if x0 < x1 then
    some 0
  else
    gd (rg x0 ∧ rg x2) (
    if x2 < x0 then
      some 0
    else
      some 1))
def pX10_isWithin (x0 : Int) (x1 : Int) (x2 : Int) : Option (Int) := pX10_isWithin_0 x0 x1 x2
def pX9_add_0 (σ : St) (x1 : Int) : Option (Int × St) :=
  gd (rg (σ.1 7)) (
  if (σ.1 7) < 0 then
    some (0, σ)
  else
    gd (rg (σ.1 7)) (
    if (σ.1 7) < 240 then
      gd (0 ≤ (σ.1 7) ∧ (σ.1 7) < 240) (
      nm (sA σ 5 (va_up (σ.2 5) (Int.toNat (σ.1 7)) x1)) fun σ28 =>
      nm (sI σ28 7 ((σ28.1 7) + 1)) fun σ36 =>
      some (1, σ36))
    else
      some (0, σ)))
def pX9_add (σ : St) (x1 : Int) : Option (Int × St) := pX9_add_0 σ x1
def pX9_length_0 (σ : St) : Option (Int) :=
  some (σ.1 7)
def pX9_length (σ : St) : Option (Int) := pX9_length_0 σ
def pX10_feed_0 (σ : St) (x1 : Int) : Option (Int × St) :=
  Option.bind (pX10_isWithin x1 0 255) fun r5 =>
  gd (rg r5) (
  if r5 = 0 then
    some ((-1000000002), σ)
  else
    Option.bind (pX9_add σ x1) fun u19 => nm u19.1 fun r19 => nm u19.2 fun σ19 =>
    gd (rg r19) (
    if r19 = 0 then
      some ((-1000000004), σ19)
    else
      Option.bind (pX9_length σ19) fun r29 =>
      some (r29, σ19)))
def pX10_feed (σ : St) (x1 : Int) : Option (Int × St) := pX10_feed_0 σ x1
def pX11_in_0 (y0 : Int) (y2 : Int) (y4 : Int) : Option (Int) :=
  gd (rgL y0 ∧ rgL y2) (
  gd (rg (zCmp y0 y2)) (
  if (zCmp y0 y2) < 0 then
    some 0
  else
    gd (rgL y0 ∧ rgL y4) (
    gd (rg (zCmp y0 y4)) (
    if 0 < (zCmp y0 y4) then
      some 0
    else
      some 1))))
def pX11_in (y0 : Int) (y2 : Int) (y4 : Int) : Option (Int) := pX11_in_0 y0 y2 y4
def pX11_feed_0 (σ : St) (x1 : Int) : Option (Int × St) :=
  gd (rg x1) (
  Option.bind (pX11_in x1 0 255) fun r6 =>
  gd (rg r6) (
  if r6 = 0 then
    some ((-1000000002), σ)
  else
    gd (rg (σ.1 5)) (
    if (σ.1 5) = 240 then
      some ((-1000000004), σ)
    else
      gd (0 ≤ (σ.1 5) ∧ (σ.1 5) < 240) (
      nm (sA σ 6 (va_up (σ.2 6) (Int.toNat (σ.1 5)) x1)) fun σ37 =>
      nm (sI σ37 5 ((σ37.1 5) + 1)) fun σ45 =>
      some ((σ45.1 5), σ45)))))
def pX11_feed (σ : St) (x1 : Int) : Option (Int × St) := pX11_feed_0 σ x1
def pX9_letterAt_0 (σ : St) (x1 : Int) : Option (Int) :=
  gd (rg x1) (
  if x1 < 0 then
    some (-1)
  else
    gd (rg x1 ∧ rg (σ.1 7)) (
    if (σ.1 7) ≤ x1 then
      some (-1)
    else
      gd (rg x1) (
      if 240 ≤ x1 then
        some (-1)
      else
        gd (0 ≤ x1 ∧ x1 < 240) (
        some (σ.2 5 (Int.toNat x1))))))
def pX9_letterAt (σ : St) (x1 : Int) : Option (Int) := pX9_letterAt_0 σ x1
def pX9_skipBlanks_37 (σ : St) : Option (Int × St) :=
  Option.bind (pX9_letterAt σ (σ.1 8)) fun r42 =>
  some (r42, σ)
def pX9_skipBlanks_0 : Nat → St → Option (Int × St)
  | 0, _ => none
  | n + 1, σ =>
    gd (rg (σ.1 8) ∧ rg (σ.1 7)) (
    if (σ.1 7) ≤ (σ.1 8) then
      pX9_skipBlanks_37 σ
    else
      Option.bind (pX9_letterAt σ (σ.1 8)) fun r16 =>
      gd (rg r16) (
      if r16 = 32 then
        nm (sI σ 8 ((σ.1 8) + 1)) fun σ31 =>
        pX9_skipBlanks_0 n σ31
      else
        pX9_skipBlanks_37 σ))
def pX9_skipBlanks (σ : St) : Option (Int × St) := pX9_skipBlanks_0 FU σ
def pX9_find_0 (σ : St) (x1 : Int) (x2 : Int) : Option (St) :=
  nm (sI σ 9 x1) fun σ2 =>
  nm (sI σ2 10 x2) fun σ7 =>
  some σ7
def pX9_find (σ : St) (x1 : Int) (x2 : Int) : Option (St) := pX9_find_0 σ x1 x2
def pX9_isFigure_0 (x0 : Int) : Option (Int) :=
  gd (rg x0) (
  if x0 < 48 then
    some 0
  else
    gd (rg x0) (
    if 57 < x0 then
      some 0
    else
      some 1))
def pX9_isFigure (x0 : Int) : Option (Int) := pX9_isFigure_0 x0
def pX9_readNumber_62 (k26 : St → Int → Int → Int → Int → Int → Int → Option (Int × St)) (σ : St) (x1 : Int) (x2 : Int) (x4 : Int) (x5 : Int) (t0 : Int) : Option (Int × St) :=
  nm (sI σ 8 ((σ.1 8) + 1)) fun σ74 =>
  Option.bind (pX9_letterAt σ74 (σ74.1 8)) fun r82 =>
  k26 σ74 x1 x2 r82 x4 (x5 + 1) t0
def pX9_readNumber_120 (σ : St) (x4 : Int) (x6 : Int) : Option (Int × St) :=
  Option.bind (pX9_find σ 2 x4) fun σ124 =>
  some (x6, σ124)
def pX9_readNumber_89 (σ : St) (x1 : Int) (x2 : Int) (x4 : Int) (x5 : Int) (x6 : Int) : Option (Int × St) :=
  gd (rg x5) (
  if x5 = 0 then
    Option.bind (pX9_find σ 1 x4) fun σ98 =>
    some (x6, σ98)
  else
    gd (rg x5) (
    if 3 < x5 then
      pX9_readNumber_120 σ x4 x6
    else
      Option.bind (pX10_isWithin x6 x1 x2) fun r114 =>
      gd (rg r114) (
      if r114 = 0 then
        pX9_readNumber_120 σ x4 x6
      else
        some (x6, σ))))
def pX9_readNumber_26 : Nat → St → Int → Int → Int → Int → Int → Int → Option (Int × St)
  | 0, _, _, _, _, _, _, _ => none
  | n + 1, σ, x1, x2, x3, x4, x5, x6 =>
    gd (rg x5) (
    if 240 ≤ x5 then
      pX9_readNumber_89 σ x1 x2 x4 x5 x6
    else
      Option.bind (pX9_isFigure x3) fun r35 =>
      gd (rg r35) (
      if r35 = 0 then
        pX9_readNumber_89 σ x1 x2 x4 x5 x6
      else
        gd (rg x5) (
        if 3 ≤ x5 then
          pX9_readNumber_62 ((pX9_readNumber_26 n)) σ x1 x2 x4 x5 x6
        else
          pX9_readNumber_62 ((pX9_readNumber_26 n)) σ x1 x2 x4 x5 (((x6 * 10) + x3) - 48))))
def pX9_readNumber_0 (σ : St) (x1 : Int) (x2 : Int) : Option (Int × St) :=
  gd (rg (σ.1 9)) (
  if (σ.1 9) = 0 then
    Option.bind (pX9_skipBlanks σ) fun u10 => nm u10.1 fun r10 => nm u10.2 fun σ10 =>
    pX9_readNumber_26 FU σ10 x1 x2 r10 (σ10.1 8) 0 0
  else
    some (0, σ))
def pX9_readNumber (σ : St) (x1 : Int) (x2 : Int) : Option (Int × St) := pX9_readNumber_0 σ x1 x2
def pX9_readSemicolon_0 (σ : St) : Option (St) :=
  gd (rg (σ.1 9)) (
  if (σ.1 9) = 0 then
    Option.bind (pX9_skipBlanks σ) fun u9 => nm u9.1 fun r9 => nm u9.2 fun σ9 =>
    gd (rg r9) (
    if r9 = 59 then
      nm (sI σ9 8 ((σ9.1 8) + 1)) fun σ24 =>
      some σ24
    else
      Option.bind (pX9_find σ9 1 (σ9.1 8)) fun σ36 =>
      some σ36)
  else
    some σ)
def pX9_readSemicolon (σ : St) : Option (St) := pX9_readSemicolon_0 σ
def pX8_addEater_c9_0 (σ : St) (x1 : Int) (x2 : Int) : Option (St) :=
  gd (rg (σ.1 15)) (
  if (σ.1 15) < 0 then
    some σ
  else
    gd (rg (σ.1 15)) (
    if 5 ≤ (σ.1 15) then
      some σ
    else
      gd (0 ≤ (σ.1 15) ∧ (σ.1 15) < 5) (
      nm (sA σ 9 (va_up (σ.2 9) (Int.toNat (σ.1 15)) x1)) fun σ24 =>
      gd (0 ≤ (σ24.1 15) ∧ (σ24.1 15) < 5) (
      nm (sA σ24 10 (va_up (σ24.2 10) (Int.toNat (σ24.1 15)) x2)) fun σ34 =>
      nm (sI σ34 15 ((σ34.1 15) + 1)) fun σ42 =>
      some σ42))))
def pX8_addEater_c9 (σ : St) (x1 : Int) (x2 : Int) : Option (St) := pX8_addEater_c9_0 σ x1 x2
def pX9_readEater_c9_0 (σ : St) : Option (St) :=
  gd (rg (σ.1 15)) (
  if (σ.1 15) < 5 then
    nm (sI σ 8 ((σ.1 8) + 1)) fun σ25 =>
    Option.bind (pX9_readNumber σ25 0 99) fun u32 => nm u32.1 fun r32 => nm u32.2 fun σ32 =>
    Option.bind (pX9_readNumber σ32 r32 99) fun u40 => nm u40.1 fun r40 => nm u40.2 fun σ40 =>
    Option.bind (pX9_readSemicolon σ40) fun σ45 =>
    gd (rg (σ45.1 9)) (
    if (σ45.1 9) = 0 then
      Option.bind (pX8_addEater_c9 σ45 r32 r40) fun σ58 =>
      some σ58
    else
      some σ45)
  else
    Option.bind (pX9_find σ 3 (σ.1 8)) fun σ14 =>
    some σ14)
def pX9_readEater_c9 (σ : St) : Option (St) := pX9_readEater_c9_0 σ
def pX8_addEgg_c9_0 (σ : St) (x1 : Int) (x2 : Int) : Option (St) :=
  gd (rg (σ.1 14)) (
  if (σ.1 14) < 0 then
    some σ
  else
    gd (rg (σ.1 14)) (
    if 7 ≤ (σ.1 14) then
      some σ
    else
      gd (0 ≤ (σ.1 14) ∧ (σ.1 14) < 7) (
      nm (sA σ 6 (va_up (σ.2 6) (Int.toNat (σ.1 14)) x1)) fun σ25 =>
      gd (0 ≤ (σ25.1 14) ∧ (σ25.1 14) < 7) (
      nm (sA σ25 7 (va_up (σ25.2 7) (Int.toNat (σ25.1 14)) x2)) fun σ35 =>
      gd (0 ≤ (σ35.1 14) ∧ (σ35.1 14) < 7) (
      nm (sA σ35 8 (va_up (σ35.2 8) (Int.toNat (σ35.1 14)) 1)) fun σ45 =>
      nm (sI σ45 14 ((σ45.1 14) + 1)) fun σ53 =>
      some σ53)))))
def pX8_addEgg_c9 (σ : St) (x1 : Int) (x2 : Int) : Option (St) := pX8_addEgg_c9_0 σ x1 x2
def pX9_readEgg_c9_0 (σ : St) : Option (St) :=
  gd (rg (σ.1 14)) (
  if (σ.1 14) < 7 then
    nm (sI σ 8 ((σ.1 8) + 1)) fun σ26 =>
    Option.bind (pX9_readNumber σ26 0 30) fun u33 => nm u33.1 fun r33 => nm u33.2 fun σ33 =>
    Option.bind (pX9_readNumber σ33 1 5) fun u40 => nm u40.1 fun r40 => nm u40.2 fun σ40 =>
    Option.bind (pX9_readSemicolon σ40) fun σ45 =>
    gd (rg (σ45.1 9)) (
    if (σ45.1 9) = 0 then
      Option.bind (pX8_addEgg_c9 σ45 r33 r40) fun σ58 =>
      some σ58
    else
      some σ45)
  else
    Option.bind (pX9_find σ 3 (σ.1 8)) fun σ15 =>
    some σ15)
def pX9_readEgg_c9 (σ : St) : Option (St) := pX9_readEgg_c9_0 σ
def pX8_isLaid_c9_0 (σ : St) : Option (Int) :=
  gd (rg (σ.1 11)) (
  if (σ.1 11) ≤ 0 then
    some 0
  else
    some 1)
def pX8_isLaid_c9 (σ : St) : Option (Int) := pX8_isLaid_c9_0 σ
def pX8_layPan_c9_0 (σ : St) (x1 : Int) (x2 : Int) (x3 : Int) : Option (St) :=
  nm (sI σ 11 x1) fun σ2 =>
  nm (sI σ2 12 x2) fun σ7 =>
  nm (sI σ7 13 x3) fun σ12 =>
  some σ12
def pX8_layPan_c9 (σ : St) (x1 : Int) (x2 : Int) (x3 : Int) : Option (St) := pX8_layPan_c9_0 σ x1 x2 x3
def pX9_readPan_c9_0 (σ : St) : Option (St) :=
  Option.bind (pX8_isLaid_c9 σ) fun r1 =>
  gd (rg r1) (
  if r1 = 0 then
    nm (sI σ 8 ((σ.1 8) + 1)) fun σ24 =>
    Option.bind (pX9_readNumber σ24 1 3) fun u30 => nm u30.1 fun r30 => nm u30.2 fun σ30 =>
    Option.bind (pX9_readNumber σ30 0 99) fun u38 => nm u38.1 fun r38 => nm u38.2 fun σ38 =>
    Option.bind (pX9_readNumber σ38 1 30) fun u46 => nm u46.1 fun r46 => nm u46.2 fun σ46 =>
    Option.bind (pX9_readSemicolon σ46) fun σ52 =>
    gd (rg (σ52.1 9)) (
    if (σ52.1 9) = 0 then
      Option.bind (pX8_layPan_c9 σ52 r30 r38 r46) fun σ67 =>
      some σ67
    else
      some σ52)
  else
    Option.bind (pX9_find σ 3 (σ.1 8)) fun σ13 =>
    some σ13)
def pX9_readPan_c9 (σ : St) : Option (St) := pX9_readPan_c9_0 σ
def pX9_readClause_c9_30 (σ : St) (x2 : Int) : Option (St) :=
  gd (rg x2) (
  if x2 = 112 then
    Option.bind (pX9_readPan_c9 σ) fun σ38 =>
    some σ38
  else
    gd (rg x2) (
    if x2 = 101 then
      Option.bind (pX9_readEgg_c9 σ) fun σ52 =>
      some σ52
    else
      gd (rg x2) (
      if x2 = 109 then
        Option.bind (pX9_readEater_c9 σ) fun σ66 =>
        some σ66
      else
        Option.bind (pX9_find σ 1 (σ.1 8)) fun σ78 =>
        some σ78)))
def pX9_readClause_c9_0 (σ : St) : Option (St) :=
  Option.bind (pX9_skipBlanks σ) fun u1 => nm u1.1 fun r1 => nm u1.2 fun σ1 =>
  gd (rg r1) (
  if r1 = 112 then
    pX9_readClause_c9_30 σ1 r1
  else
    Option.bind (pX8_isLaid_c9 σ1) fun r12 =>
    gd (rg r12) (
    if r12 = 0 then
      Option.bind (pX9_find σ1 1 (σ1.1 8)) fun σ24 =>
      some σ24
    else
      pX9_readClause_c9_30 σ1 r1))
def pX9_readClause_c9 (σ : St) : Option (St) := pX9_readClause_c9_0 σ
def pX8_clear_c9_0 (σ : St) : Option (St) :=
  nm (sI σ 11 0) fun σ2 =>
  nm (sI σ2 12 0) fun σ7 =>
  nm (sI σ7 13 0) fun σ12 =>
  nm (sI σ12 14 0) fun σ17 =>
  nm (sI σ17 15 0) fun σ22 =>
  some σ22
def pX8_clear_c9 (σ : St) : Option (St) := pX8_clear_c9_0 σ
def pX9_readInto_c9_54 (σ : St) : Option (Int × St) :=
  some ((σ.1 9), σ)
def pX9_readInto_c9_21 : Nat → St → Int → Option (Int × St)
  | 0, _, _ => none
  | n + 1, σ, x2 =>
    gd (rg x2) (
    if 240 ≤ x2 then
      pX9_readInto_c9_54 σ
    else
      gd (rg (σ.1 9)) (
      if (σ.1 9) = 0 then
        Option.bind (pX9_skipBlanks σ) fun u36 => nm u36.1 fun r36 => nm u36.2 fun σ36 =>
        gd (rg r36) (
        if r36 = (-1) then
          pX9_readInto_c9_54 σ36
        else
          Option.bind (pX9_readClause_c9 σ36) fun σ45 =>
          pX9_readInto_c9_21 n σ45 (x2 + 1))
      else
        pX9_readInto_c9_54 σ))
def pX9_readInto_c9_0 (σ : St) : Option (Int × St) :=
  Option.bind (pX8_clear_c9 σ) fun σ1 =>
  nm (sI σ1 8 0) fun σ6 =>
  nm (sI σ6 9 0) fun σ11 =>
  nm (sI σ11 10 (-1)) fun σ16 =>
  pX9_readInto_c9_21 FU σ16 0
def pX9_readInto_c9 (σ : St) : Option (Int × St) := pX9_readInto_c9_0 σ
def pX9_faultPlace_0 (σ : St) : Option (Int) :=
  some (σ.1 10)
def pX9_faultPlace (σ : St) : Option (Int) := pX9_faultPlace_0 σ
def pX9_empty_0 (σ : St) : Option (St) :=
  nm (sI σ 7 0) fun σ2 =>
  some σ2
def pX9_empty (σ : St) : Option (St) := pX9_empty_0 σ
def pX8_layPan_c1_0 (σ : St) (x1 : Int) (x2 : Int) (x3 : Int) : Option (St) :=
  nm (sI σ 2 x1) fun σ2 =>
  nm (sI σ2 3 x2) fun σ7 =>
  nm (sI σ7 4 x3) fun σ12 =>
  some σ12
def pX8_layPan_c1 (σ : St) (x1 : Int) (x2 : Int) (x3 : Int) : Option (St) := pX8_layPan_c1_0 σ x1 x2 x3
def pX8_become_c1_c9_0 (σ : St) : Option (St) :=
  Option.bind (pX8_layPan_c1 σ (σ.1 11) (σ.1 12) (σ.1 13)) fun σ13 =>
  nm (sI σ13 5 (σ13.1 14)) fun σ21 =>
  nm (sI σ21 6 (σ21.1 15)) fun σ29 =>
  nm (sA σ29 0 (va_cpy (σ29.2 6) (σ29.2 0) 0 0 7)) fun σ44 =>
  nm (sA σ44 1 (va_cpy (σ44.2 7) (σ44.2 1) 0 0 7)) fun σ59 =>
  nm (sA σ59 2 (va_cpy (σ59.2 8) (σ59.2 2) 0 0 7)) fun σ74 =>
  nm (sA σ74 3 (va_cpy (σ74.2 9) (σ74.2 3) 0 0 5)) fun σ88 =>
  nm (sA σ88 4 (va_cpy (σ88.2 10) (σ88.2 4) 0 0 5)) fun σ102 =>
  some σ102
def pX8_become_c1_c9 (σ : St) : Option (St) := pX8_become_c1_c9_0 σ
def pX4_begin_2 : Nat → St → Int → Option (St)
  | 0, _, _ => none
  | n + 1, σ, x1 =>
    gd (rg x1) (
    if 7 ≤ x1 then
      nm (sI σ 16 (-1)) fun σ30 =>
      nm (sI σ30 17 0) fun σ35 =>
      nm (sI σ35 18 (σ35.1 3)) fun σ46 =>
      nm (sI σ46 19 0) fun σ51 =>
      nm (sI σ51 20 0) fun σ56 =>
      nm (sI σ56 21 0) fun σ61 =>
      some σ61
    else
      gd (0 ≤ x1 ∧ x1 < 7) (
      nm (sA σ 11 (va_up (σ.2 11) (Int.toNat x1) 0)) fun σ14 =>
      gd (0 ≤ x1 ∧ x1 < 7) (
      nm (sA σ14 12 (va_up (σ14.2 12) (Int.toNat x1) 0)) fun σ21 =>
      pX4_begin_2 n σ21 (x1 + 1))))
def pX4_begin_0 (σ : St) : Option (St) :=
  pX4_begin_2 FU σ 0
def pX4_begin (σ : St) : Option (St) := pX4_begin_0 σ
def pX5_forget_0 (σ : St) : Option (St) :=
  nm (sI σ 22 0) fun σ2 =>
  nm (sI σ2 23 0) fun σ7 =>
  some σ7
def pX5_forget (σ : St) : Option (St) := pX5_forget_0 σ
def pX3_forget_2 : Nat → St → Int → Option (St)
  | 0, _, _ => none
  | n + 1, σ, x1 =>
    gd (rg x1) (
    if 2 ≤ x1 then
      some σ
    else
      gd (0 ≤ x1 ∧ x1 < 2) (
      nm (sA σ 16 (va_up (σ.2 16) (Int.toNat x1) 0)) fun σ13 =>
      pX3_forget_2 n σ13 (x1 + 1)))
def pX3_forget_0 (σ : St) : Option (St) :=
  pX3_forget_2 FU σ 0
def pX3_forget (σ : St) : Option (St) := pX3_forget_0 σ
def pX2_forget_0 (σ : St) : Option (St) :=
  nm (sI σ 24 0) fun σ2 =>
  some σ2
def pX2_forget (σ : St) : Option (St) := pX2_forget_0 σ
def pX1_forget_0 (σ : St) : Option (St) :=
  nm (sI σ 25 0) fun σ2 =>
  some σ2
def pX1_forget (σ : St) : Option (St) := pX1_forget_0 σ
def pX10_table_0 (σ : St) : Option (Int × St) :=
  Option.bind (pX9_readInto_c9 σ) fun u8 => nm u8.1 fun r8 => nm u8.2 fun σ8 =>
  Option.bind (pX9_faultPlace σ8) fun r17 =>
  nm (sI σ8 0 r17) fun σ20 =>
  Option.bind (pX9_empty σ20) fun σ27 =>
  gd (rg r8) (
  if r8 = 0 then
    Option.bind (pX8_become_c1_c9 σ27) fun σ47 =>
    Option.bind (pX4_begin σ47) fun σ54 =>
    Option.bind (pX5_forget σ54) fun σ61 =>
    Option.bind (pX3_forget σ61) fun σ68 =>
    Option.bind (pX2_forget σ68) fun σ75 =>
    Option.bind (pX1_forget σ75) fun σ82 =>
    some ((σ82.1 5), σ82)
  else
    some (((-10) - r8), σ27))
def pX10_table (σ : St) : Option (Int × St) := pX10_table_0 σ
def pX11_takeRead_117 : Nat → St → Int → Option (St)
  | 0, _, _ => none
  | n + 1, σ, x1 =>
    gd (rg x1) (
    if 5 ≤ x1 then
      some σ
    else
      gd (0 ≤ x1 ∧ x1 < 5) (
      gd (0 ≤ x1 ∧ x1 < 5) (
      nm (sA σ 2 (va_up (σ.2 2) (Int.toNat x1) (σ.2 10 (Int.toNat x1)))) fun σ133 =>
      gd (0 ≤ x1 ∧ x1 < 5) (
      gd (0 ≤ x1 ∧ x1 < 5) (
      nm (sA σ133 3 (va_up (σ133.2 3) (Int.toNat x1) (σ133.2 11 (Int.toNat x1)))) fun σ145 =>
      pX11_takeRead_117 n σ145 (x1 + 1))))))
def pX11_takeRead_72 : Nat → St → Int → Option (St)
  | 0, _, _ => none
  | n + 1, σ, x1 =>
    gd (rg x1) (
    if 7 ≤ x1 then
      pX11_takeRead_117 FU σ 0
    else
      gd (0 ≤ x1 ∧ x1 < 7) (
      gd (0 ≤ x1 ∧ x1 < 7) (
      nm (sA σ 0 (va_up (σ.2 0) (Int.toNat x1) (σ.2 8 (Int.toNat x1)))) fun σ89 =>
      gd (0 ≤ x1 ∧ x1 < 7) (
      gd (0 ≤ x1 ∧ x1 < 7) (
      nm (sA σ89 1 (va_up (σ89.2 1) (Int.toNat x1) (σ89.2 9 (Int.toNat x1)))) fun σ101 =>
      gd (0 ≤ x1 ∧ x1 < 7) (
      nm (sA σ101 4 (va_up (σ101.2 4) (Int.toNat x1) 1)) fun σ108 =>
      pX11_takeRead_72 n σ108 (x1 + 1)))))))
def pX11_takeRead_38 : Nat → St → Int → Option (St)
  | 0, _, _ => none
  | n + 1, σ, x1 =>
    gd (rg x1) (
    if 19 ≤ x1 then
      nm (sA σ 5 (va_up (σ.2 5) 14 (σ.2 7 1))) fun σ69 =>
      pX11_takeRead_72 FU σ69 0
    else
      gd (0 ≤ x1 ∧ x1 < 19) (
      nm (sA σ 5 (va_up (σ.2 5) (Int.toNat x1) 0)) fun σ50 =>
      pX11_takeRead_38 n σ50 (x1 + 1)))
def pX11_takeRead_0 (σ : St) : Option (St) :=
  nm (sI σ 0 (σ.2 7 0)) fun σ7 =>
  nm (sI σ7 1 (σ7.2 7 2)) fun σ17 =>
  nm (sI σ17 2 (σ17.1 10)) fun σ25 =>
  nm (sI σ25 3 (σ25.1 11)) fun σ33 =>
  pX11_takeRead_38 FU σ33 0
def pX11_takeRead (σ : St) : Option (St) := pX11_takeRead_0 σ
def pX11_here_38 (σ : St) : Option (Int × St) :=
  gd (rg (σ.1 7) ∧ rg (σ.1 5)) (
  if (σ.1 5) ≤ (σ.1 7) then
    some ((-1), σ)
  else
    gd (0 ≤ (σ.1 7) ∧ (σ.1 7) < 240) (
    some ((σ.2 6 (Int.toNat (σ.1 7))), σ)))
def pX11_here_0 : Nat → St → Option (Int × St)
  | 0, _ => none
  | n + 1, σ =>
    gd (rg (σ.1 7) ∧ rg (σ.1 5)) (
    if (σ.1 5) ≤ (σ.1 7) then
      pX11_here_38 σ
    else
      gd (0 ≤ (σ.1 7) ∧ (σ.1 7) < 240) (
      gd (rg (σ.2 6 (Int.toNat (σ.1 7)))) (
      if (σ.2 6 (Int.toNat (σ.1 7))) = 32 then
        nm (sI σ 7 ((σ.1 7) + 1)) fun σ32 =>
        pX11_here_0 n σ32
      else
        pX11_here_38 σ)))
def pX11_here (σ : St) : Option (Int × St) := pX11_here_0 FU σ
def pX11_fails_0 (σ : St) (x1 : Int) (x2 : Int) : Option (Int × St) :=
  nm (sI σ 6 x2) fun σ2 =>
  some (x1, σ2)
def pX11_fails (σ : St) (x1 : Int) (x2 : Int) : Option (Int × St) := pX11_fails_0 σ x1 x2
def pX11_takeNumber_113 (k42 : St → Int → Int → Option (Int × St)) (σ : St) (x1 : Int) (x2 : Int) (t1 : Int) : Option (Int × St) :=
  nm (sI σ 8 t1) fun σ113 =>
  nm (sI σ113 7 ((σ113.1 7) + 1)) fun σ123 =>
  k42 σ123 x1 x2
def pX11_takeNumber_157 (σ : St) : Option (Int × St) :=
  Option.bind (pX11_fails σ 2 (σ.1 9)) fun u163 => nm u163.1 fun r163 => nm u163.2 fun σ163 =>
  some (r163, σ163)
def pX11_takeNumber_129 (σ : St) (x1 : Int) (x2 : Int) : Option (Int × St) :=
  gd (rg ((σ.1 7) - (σ.1 9))) (
  if 3 < ((σ.1 7) - (σ.1 9)) then
    pX11_takeNumber_157 σ
  else
    gd (rg (σ.1 8)) (
    gd (rg x1) (
    gd (rg x2) (
    Option.bind (pX11_in (σ.1 8) x1 x2) fun r151 =>
    gd (rg r151) (
    if r151 = 0 then
      pX11_takeNumber_157 σ
    else
      some (0, σ))))))
def pX11_takeNumber_42 : Nat → St → Int → Int → Option (Int × St)
  | 0, _, _, _ => none
  | n + 1, σ, x1, x2 =>
    gd (rg (σ.1 7) ∧ rg (σ.1 5)) (
    if (σ.1 5) ≤ (σ.1 7) then
      pX11_takeNumber_129 σ x1 x2
    else
      gd (0 ≤ (σ.1 7) ∧ (σ.1 7) < 240) (
      gd (rg (σ.2 6 (Int.toNat (σ.1 7)))) (
      Option.bind (pX11_in (σ.2 6 (Int.toNat (σ.1 7))) 48 57) fun r69 =>
      gd (rg r69) (
      if r69 = 0 then
        pX11_takeNumber_129 σ x1 x2
      else
        gd (rg (σ.1 8)) (
        if (σ.1 8) ≤ 10000 then
          gd (0 ≤ (σ.1 7) ∧ (σ.1 7) < 240) (
          pX11_takeNumber_113 ((pX11_takeNumber_42 n)) σ x1 x2 (((10 * (σ.1 8)) + (σ.2 6 (Int.toNat (σ.1 7)))) - 48))
        else
          pX11_takeNumber_113 ((pX11_takeNumber_42 n)) σ x1 x2 (σ.1 8))))))
def pX11_takeNumber_0 (σ : St) (x1 : Int) (x2 : Int) : Option (Int × St) :=
  Option.bind (pX11_here σ) fun u1 => nm u1.1 fun r1 => nm u1.2 fun σ1 =>
  gd (rg r1) (
  Option.bind (pX11_in r1 48 57) fun r13 =>
  gd (rg r13) (
  if r13 = 0 then
    Option.bind (pX11_fails σ1 1 (σ1.1 7)) fun u25 => nm u25.1 fun r25 => nm u25.2 fun σ25 =>
    some (r25, σ25)
  else
    nm (sI σ1 9 (σ1.1 7)) fun σ34 =>
    nm (sI σ34 8 0) fun σ39 =>
    pX11_takeNumber_42 FU σ39 x1 x2))
def pX11_takeNumber (σ : St) (x1 : Int) (x2 : Int) : Option (Int × St) := pX11_takeNumber_0 σ x1 x2
def pX11_into_a11_0 (σ : St) (x2 : Int) (x3 : Int) (x4 : Int) : Option (Int × St) :=
  Option.bind (pX11_takeNumber σ x3 x4) fun u4 => nm u4.1 fun r4 => nm u4.2 fun σ4 =>
  gd (0 ≤ x2 ∧ x2 < 5) (
  nm (sA σ4 10 (va_up (σ4.2 10) (Int.toNat x2) (σ4.1 8))) fun σ15 =>
  some (r4, σ15))
def pX11_into_a11 (σ : St) (x2 : Int) (x3 : Int) (x4 : Int) : Option (Int × St) := pX11_into_a11_0 σ x2 x3 x4
def pX11_into_a12_0 (σ : St) (x2 : Int) (x3 : Int) (x4 : Int) : Option (Int × St) :=
  Option.bind (pX11_takeNumber σ x3 x4) fun u4 => nm u4.1 fun r4 => nm u4.2 fun σ4 =>
  gd (0 ≤ x2 ∧ x2 < 5) (
  nm (sA σ4 11 (va_up (σ4.2 11) (Int.toNat x2) (σ4.1 8))) fun σ15 =>
  some (r4, σ15))
def pX11_into_a12 (σ : St) (x2 : Int) (x3 : Int) (x4 : Int) : Option (Int × St) := pX11_into_a12_0 σ x2 x3 x4
def pX11_takeEater_0 (σ : St) : Option (Int × St) :=
  nm (sI σ 11 ((σ.1 11) + 1)) fun σ12 =>
  Option.bind (pX11_into_a11 σ12 (σ.1 11) 0 99) fun u24 => nm u24.1 fun r24 => nm u24.2 fun σ24 =>
  gd (rg r24) (
  if r24 ≤ 0 then
    gd (0 ≤ (σ.1 11) ∧ (σ.1 11) < 5) (
    Option.bind (pX11_into_a12 σ24 (σ.1 11) (σ24.2 10 (Int.toNat (σ.1 11))) 99) fun u50 => nm u50.1 fun r50 => nm u50.2 fun σ50 =>
    some (r50, σ50))
  else
    some (r24, σ24))
def pX11_takeEater (σ : St) : Option (Int × St) := pX11_takeEater_0 σ
def pX11_into_a9_0 (σ : St) (x2 : Int) (x3 : Int) (x4 : Int) : Option (Int × St) :=
  Option.bind (pX11_takeNumber σ x3 x4) fun u4 => nm u4.1 fun r4 => nm u4.2 fun σ4 =>
  gd (0 ≤ x2 ∧ x2 < 7) (
  nm (sA σ4 8 (va_up (σ4.2 8) (Int.toNat x2) (σ4.1 8))) fun σ15 =>
  some (r4, σ15))
def pX11_into_a9 (σ : St) (x2 : Int) (x3 : Int) (x4 : Int) : Option (Int × St) := pX11_into_a9_0 σ x2 x3 x4
def pX11_into_a10_0 (σ : St) (x2 : Int) (x3 : Int) (x4 : Int) : Option (Int × St) :=
  Option.bind (pX11_takeNumber σ x3 x4) fun u4 => nm u4.1 fun r4 => nm u4.2 fun σ4 =>
  gd (0 ≤ x2 ∧ x2 < 7) (
  nm (sA σ4 9 (va_up (σ4.2 9) (Int.toNat x2) (σ4.1 8))) fun σ15 =>
  some (r4, σ15))
def pX11_into_a10 (σ : St) (x2 : Int) (x3 : Int) (x4 : Int) : Option (Int × St) := pX11_into_a10_0 σ x2 x3 x4
def pX11_takeEgg_0 (σ : St) : Option (Int × St) :=
  nm (sI σ 10 ((σ.1 10) + 1)) fun σ12 =>
  Option.bind (pX11_into_a9 σ12 (σ.1 10) 0 30) fun u24 => nm u24.1 fun r24 => nm u24.2 fun σ24 =>
  gd (rg r24) (
  if r24 ≤ 0 then
    Option.bind (pX11_into_a10 σ24 (σ.1 10) 1 5) fun u44 => nm u44.1 fun r44 => nm u44.2 fun σ44 =>
    some (r44, σ44)
  else
    some (r24, σ24))
def pX11_takeEgg (σ : St) : Option (Int × St) := pX11_takeEgg_0 σ
def pX11_into_a8_0 (σ : St) (x2 : Int) (x3 : Int) (x4 : Int) : Option (Int × St) :=
  Option.bind (pX11_takeNumber σ x3 x4) fun u4 => nm u4.1 fun r4 => nm u4.2 fun σ4 =>
  gd (0 ≤ x2 ∧ x2 < 3) (
  nm (sA σ4 7 (va_up (σ4.2 7) (Int.toNat x2) (σ4.1 8))) fun σ15 =>
  some (r4, σ15))
def pX11_into_a8 (σ : St) (x2 : Int) (x3 : Int) (x4 : Int) : Option (Int × St) := pX11_into_a8_0 σ x2 x3 x4
def pX11_takePan_32 (σ : St) (t0 : Int) : Option (Int × St) :=
  gd (rg t0) (
  if t0 ≤ 0 then
    Option.bind (pX11_into_a8 σ 2 1 30) fun u50 => nm u50.1 fun r50 => nm u50.2 fun σ50 =>
    some (r50, σ50)
  else
    some (t0, σ))
def pX11_takePan_0 (σ : St) : Option (Int × St) :=
  Option.bind (pX11_into_a8 σ 0 1 3) fun u8 => nm u8.1 fun r8 => nm u8.2 fun σ8 =>
  gd (rg r8) (
  if r8 ≤ 0 then
    Option.bind (pX11_into_a8 σ8 1 0 99) fun u29 => nm u29.1 fun r29 => nm u29.2 fun σ29 =>
    pX11_takePan_32 σ29 r29
  else
    pX11_takePan_32 σ8 r8)
def pX11_takePan (σ : St) : Option (Int × St) := pX11_takePan_0 σ
def pX11_takeClause_54 (σ : St) : Option (Int × St) :=
  Option.bind (pX11_fails σ 1 (σ.1 7)) fun u60 => nm u60.1 fun r60 => nm u60.2 fun σ60 =>
  some (r60, σ60)
def pX11_takeClause_198 (σ : St) (x4 : Int) : Option (Int × St) :=
  nm (sI σ 7 ((σ.1 7) + 1)) fun σ205 =>
  some (x4, σ205)
def pX11_takeClause_172 (σ : St) (t0 : Int) : Option (Int × St) :=
  gd (rg t0) (
  if t0 = 0 then
    Option.bind (pX11_here σ) fun u180 => nm u180.1 fun r180 => nm u180.2 fun σ180 =>
    gd (rg r180) (
    if r180 = 59 then
      pX11_takeClause_198 σ180 t0
    else
      Option.bind (pX11_fails σ180 1 (σ180.1 7)) fun u194 => nm u194.1 fun r194 => nm u194.2 fun σ194 =>
      some (r194, σ194))
  else
    pX11_takeClause_198 σ t0)
def pX11_takeClause_120 (σ : St) (x2 : Int) (t0 : Int) : Option (Int × St) :=
  gd (rg t0) (
  if t0 = 0 then
    nm (sI σ 7 ((σ.1 7) + 1)) fun σ142 =>
    gd (rg x2) (
    if x2 = 0 then
      Option.bind (pX11_takePan σ142) fun u150 => nm u150.1 fun r150 => nm u150.2 fun σ150 =>
      pX11_takeClause_172 σ150 r150
    else
      gd (rg x2) (
      if x2 = 1 then
        Option.bind (pX11_takeEgg σ142) fun u162 => nm u162.1 fun r162 => nm u162.2 fun σ162 =>
        pX11_takeClause_172 σ162 r162
      else
        Option.bind (pX11_takeEater σ142) fun u169 => nm u169.1 fun r169 => nm u169.2 fun σ169 =>
        pX11_takeClause_172 σ169 r169))
  else
    Option.bind (pX11_fails σ 3 (σ.1 7)) fun u131 => nm u131.1 fun r131 => nm u131.2 fun σ131 =>
    some (r131, σ131))
def pX11_takeClause_64 (σ : St) (x2 : Int) : Option (Int × St) :=
  gd (rg x2) (
  if x2 = 0 then
    gd (rg (σ.2 7 0)) (
    if (σ.2 7 0) ≤ 0 then
      pX11_takeClause_120 σ x2 0
    else
      pX11_takeClause_120 σ x2 1)
  else
    gd (rg x2) (
    if x2 = 1 then
      gd (rg (σ.1 10)) (
      if (σ.1 10) = 7 then
        pX11_takeClause_120 σ x2 1
      else
        pX11_takeClause_120 σ x2 0)
    else
      gd (rg (σ.1 11)) (
      if (σ.1 11) = 5 then
        pX11_takeClause_120 σ x2 1
      else
        pX11_takeClause_120 σ x2 0)))
def pX11_takeClause_36 (σ : St) (t0 : Int) : Option (Int × St) :=
  gd (rg t0) (
  if t0 < 0 then
    pX11_takeClause_54 σ
  else
    gd (rg t0) (
    if t0 ≤ 0 then
      pX11_takeClause_64 σ t0
    else
      gd (rg (σ.2 7 0)) (
      if (σ.2 7 0) = 0 then
        pX11_takeClause_54 σ
      else
        pX11_takeClause_64 σ t0)))
def pX11_takeClause_0 (σ : St) : Option (Int × St) :=
  Option.bind (pX11_here σ) fun u1 => nm u1.1 fun r1 => nm u1.2 fun σ1 =>
  gd (rg r1) (
  if r1 = 112 then
    pX11_takeClause_36 σ1 0
  else
    gd (rg r1) (
    if r1 = 101 then
      pX11_takeClause_36 σ1 1
    else
      gd (rg r1) (
      if r1 = 109 then
        pX11_takeClause_36 σ1 2
      else
        pX11_takeClause_36 σ1 (-1))))
def pX11_takeClause (σ : St) : Option (Int × St) := pX11_takeClause_0 σ
def pX11_table_61 (σ : St) (x1 : Int) : Option (Int × St) :=
  nm (sI σ 5 0) fun σ63 =>
  gd (rg x1) (
  if x1 ≤ 0 then
    Option.bind (pX11_takeRead σ63) fun σ76 =>
    nm (sI σ76 13 0) fun σ81 =>
    nm (sI σ81 14 0) fun σ86 =>
    nm (sI σ86 12 0) fun σ91 =>
    nm (sA σ91 24 (va_up (σ91.2 24) 0 0)) fun σ100 =>
    nm (sA σ100 24 (va_up (σ100.2 24) 1 0)) fun σ107 =>
    some ((σ107.1 2), σ107)
  else
    some (((-10) - x1), σ63))
def pX11_table_42 : Nat → St → Int → Option (Int × St)
  | 0, _, _ => none
  | n + 1, σ, x1 =>
    gd (rg x1) (
    if x1 = 0 then
      Option.bind (pX11_here σ) fun u47 => nm u47.1 fun r47 => nm u47.2 fun σ47 =>
      gd (rg r47) (
      if r47 < 0 then
        pX11_table_61 σ47 x1
      else
        Option.bind (pX11_takeClause σ47) fun u54 => nm u54.1 fun r54 => nm u54.2 fun σ54 =>
        pX11_table_42 n σ54 r54)
    else
      pX11_table_61 σ x1)
def pX11_table_12 : Nat → St → Int → Option (Int × St)
  | 0, _, _ => none
  | n + 1, σ, x1 =>
    gd (rg x1) (
    if 3 ≤ x1 then
      nm (sI σ 10 0) fun σ32 =>
      nm (sI σ32 11 0) fun σ37 =>
      pX11_table_42 FU σ37 0
    else
      gd (0 ≤ x1 ∧ x1 < 3) (
      nm (sA σ 7 (va_up (σ.2 7) (Int.toNat x1) 0)) fun σ23 =>
      pX11_table_12 n σ23 (x1 + 1)))
def pX11_table_0 (σ : St) : Option (Int × St) :=
  nm (sI σ 6 (-1)) fun σ2 =>
  nm (sI σ2 7 0) fun σ7 =>
  pX11_table_12 FU σ7 0
def pX11_table (σ : St) : Option (Int × St) := pX11_table_0 σ
def pX10_fault_0 (σ : St) : Option (Int) :=
  some (σ.1 0)
def pX10_fault (σ : St) : Option (Int) := pX10_fault_0 σ
def pX11_fault_0 (σ : St) : Option (Int) :=
  some (σ.1 6)
def pX11_fault (σ : St) : Option (Int) := pX11_fault_0 σ
def pX8_hasEgg_c1_0 (σ : St) (x1 : Int) : Option (Int) :=
  gd (rg x1) (
  if x1 < 0 then
    some 0
  else
    gd (rg x1 ∧ rg (σ.1 5)) (
    if (σ.1 5) ≤ x1 then
      some 0
    else
      gd (rg x1) (
      if 7 ≤ x1 then
        some 0
      else
        some 1)))
def pX8_hasEgg_c1 (σ : St) (x1 : Int) : Option (Int) := pX8_hasEgg_c1_0 σ x1
def pX4_stateOf_0 (σ : St) (x1 : Int) : Option (Int) :=
  Option.bind (pX8_hasEgg_c1 σ x1) fun r5 =>
  gd (rg r5) (
  if r5 = 0 then
    some (-1)
  else
    gd (0 ≤ x1 ∧ x1 < 7) (
    some (σ.2 11 (Int.toNat x1))))
def pX4_stateOf (σ : St) (x1 : Int) : Option (Int) := pX4_stateOf_0 σ x1
def pX4_setThatIs_27 (k4 : Int → Int → Int → Option (Int)) (σ : St) (x1 : Int) (x3 : Int) (t0 : Int) (t1 : Int) : Option (Int) :=
  k4 x1 (zOr t0 t1) (x3 + 1)
def pX4_setThatIs_4 (σ : St) : Nat → Int → Int → Int → Option (Int)
  | 0, _, _, _ => none
  | n + 1, x1, x2, x3 =>
    gd (rg x3) (
    if 7 ≤ x3 then
      some x2
    else
      Option.bind (pX4_stateOf σ x3) fun r13 =>
      gd (rg r13 ∧ rg x1) (
      if r13 = x1 then
        pX4_setThatIs_27 ((pX4_setThatIs_4 σ n)) σ x1 x3 x2 (zShl 1 x3)
      else
        pX4_setThatIs_27 ((pX4_setThatIs_4 σ n)) σ x1 x3 x2 0))
def pX4_setThatIs_0 (σ : St) (x1 : Int) : Option (Int) :=
  pX4_setThatIs_4 σ FU x1 0 0
def pX4_setThatIs (σ : St) (x1 : Int) : Option (Int) := pX4_setThatIs_0 σ x1
def pX4_boiledOf_0 (σ : St) (x1 : Int) : Option (Int) :=
  Option.bind (pX8_hasEgg_c1 σ x1) fun r5 =>
  gd (rg r5) (
  if r5 = 0 then
    some 0
  else
    gd (0 ≤ x1 ∧ x1 < 7) (
    some (σ.2 12 (Int.toNat x1))))
def pX4_boiledOf (σ : St) (x1 : Int) : Option (Int) := pX4_boiledOf_0 σ x1
def pX8_hardness_c1_0 (σ : St) (x1 : Int) (x2 : Int) : Option (Int) :=
  Option.bind (pX8_hasEgg_c1 σ x1) fun r2 =>
  gd (rg r2) (
  if r2 = 0 then
    some 0
  else
    gd (0 ≤ x1 ∧ x1 < 7) (
    gd (0 ≤ x1 ∧ x1 < 7) (
    gd (dv (σ.2 0 (Int.toNat x1)) 3) (
    gd (rg (((10 * x2) - (5 * (σ.2 1 (Int.toNat x1)))) + ((σ.2 0 (Int.toNat x1)) / 3))) (
    gd (rg (min 99 (((10 * x2) - (5 * (σ.2 1 (Int.toNat x1)))) + ((σ.2 0 (Int.toNat x1)) / 3)))) (
    some (max 0 (min 99 (((10 * x2) - (5 * (σ.2 1 (Int.toNat x1)))) + ((σ.2 0 (Int.toNat x1)) / 3))))))))))
def pX8_hardness_c1 (σ : St) (x1 : Int) (x2 : Int) : Option (Int) := pX8_hardness_c1_0 σ x1 x2
def pX4_hardnessOf_0 (σ : St) (x1 : Int) : Option (Int) :=
  Option.bind (pX4_boiledOf σ x1) fun r7 =>
  Option.bind (pX8_hardness_c1 σ x1 r7) fun r10 =>
  some r10
def pX4_hardnessOf (σ : St) (x1 : Int) : Option (Int) := pX4_hardnessOf_0 σ x1
def pX4_pretenders_35 (k4 : Int → Int → Option (Int)) (σ : St) (x2 : Int) (t0 : Int) (t1 : Int) : Option (Int) :=
  k4 (zOr t0 t1) (x2 + 1)
def pX4_pretenders_34 (k4 : Int → Int → Option (Int)) (σ : St) (x2 : Int) (t0 : Int) : Option (Int) :=
  pX4_pretenders_35 k4 σ x2 t0 0
def pX4_pretenders_4 (σ : St) : Nat → Int → Int → Option (Int)
  | 0, _, _ => none
  | n + 1, x1, x2 =>
    gd (rg x2) (
    if 7 ≤ x2 then
      some x1
    else
      Option.bind (pX4_stateOf σ x2) fun r13 =>
      gd (rg r13) (
      if r13 = 2 then
        Option.bind (pX4_hardnessOf σ x2) fun r22 =>
        gd (rg r22) (
        if r22 = 0 then
          pX4_pretenders_35 ((pX4_pretenders_4 σ n)) σ x2 x1 (zShl 1 x2)
        else
          pX4_pretenders_34 ((pX4_pretenders_4 σ n)) σ x2 x1)
      else
        pX4_pretenders_34 ((pX4_pretenders_4 σ n)) σ x2 x1))
def pX4_pretenders_0 (σ : St) : Option (Int) :=
  pX4_pretenders_4 σ FU 0 0
def pX4_pretenders (σ : St) : Option (Int) := pX4_pretenders_0 σ
def pX8_sizeOf_c1_0 (σ : St) (x1 : Int) : Option (Int) :=
  Option.bind (pX8_hasEgg_c1 σ x1) fun r2 =>
  gd (rg r2) (
  if r2 = 0 then
    some 0
  else
    gd (0 ≤ x1 ∧ x1 < 7) (
    some (σ.2 1 (Int.toNat x1))))
def pX8_sizeOf_c1 (σ : St) (x1 : Int) : Option (Int) := pX8_sizeOf_c1_0 σ x1
def pX8_reign_c1_0 (σ : St) (x1 : Int) (x2 : Int) : Option (Int) :=
  Option.bind (pX8_hardness_c1 σ x1 x2) fun r4 =>
  gd (dv r4 10) (
  Option.bind (pX8_sizeOf_c1 σ x1) fun r13 =>
  some ((1 + (r4 / 10)) + r13))
def pX8_reign_c1 (σ : St) (x1 : Int) (x2 : Int) : Option (Int) := pX8_reign_c1_0 σ x1 x2
def pX4_reignOf_0 (σ : St) (x1 : Int) : Option (Int) :=
  Option.bind (pX4_boiledOf σ x1) fun r7 =>
  Option.bind (pX8_reign_c1 σ x1 r7) fun r10 =>
  some r10
def pX4_reignOf (σ : St) (x1 : Int) : Option (Int) := pX4_reignOf_0 σ x1
def pX4_heir_39 (k4 : Int → Int → Option (Int)) (σ : St) (x1 : Int) (x2 : Int) : Option (Int) :=
  k4 x1 (x2 + 1)
def pX4_heir_37 (k4 : Int → Int → Option (Int)) (σ : St) (x2 : Int) : Option (Int) :=
  pX4_heir_39 k4 σ x2 x2
def pX4_heir_4 (σ : St) : Nat → Int → Int → Option (Int)
  | 0, _, _ => none
  | n + 1, x1, x2 =>
    gd (rg x2) (
    if 7 ≤ x2 then
      some x1
    else
      Option.bind (pX4_stateOf σ x2) fun r12 =>
      gd (rg r12) (
      if r12 = 2 then
        gd (rg x1) (
        if x1 = (-1) then
          pX4_heir_37 ((pX4_heir_4 σ n)) σ x2
        else
          Option.bind (pX4_reignOf σ x2) fun r26 =>
          Option.bind (pX4_reignOf σ x1) fun r31 =>
          gd (rg r26 ∧ rg r31) (
          if r26 ≤ r31 then
            pX4_heir_39 ((pX4_heir_4 σ n)) σ x1 x2
          else
            pX4_heir_37 ((pX4_heir_4 σ n)) σ x2))
      else
        pX4_heir_39 ((pX4_heir_4 σ n)) σ x1 x2))
def pX4_heir_0 (σ : St) : Option (Int) :=
  pX4_heir_4 σ FU (-1) 0
def pX4_heir (σ : St) : Option (Int) := pX4_heir_0 σ
def pX10_told_0 (σ : St) (x1 : Int) : Option (Int) :=
  gd (rg x1) (
  if x1 = 0 then
    some (σ.1 2)
  else if x1 = 1 then
    some (σ.1 18)
  else if x1 = 2 then
    some (σ.1 4)
  else if x1 = 3 then
    some (σ.1 5)
  else if x1 = 4 then
    some (σ.1 6)
  else if x1 = 5 then
    Option.bind (pX9_length σ) fun r132 =>
    some r132
  else if x1 = 6 then
    some (σ.1 19)
  else if x1 = 7 then
    some (σ.1 16)
  else if x1 = 8 then
    some (σ.1 17)
  else if x1 = 9 then
    some (σ.1 20)
  else if x1 = 10 then
    some (σ.1 21)
  else if x1 = 11 then
    Option.bind (pX4_setThatIs σ 1) fun r181 =>
    some r181
  else if x1 = 12 then
    Option.bind (pX4_setThatIs σ 2) fun r190 =>
    some r190
  else if x1 = 13 then
    Option.bind (pX4_pretenders σ) fun r198 =>
    some r198
  else if x1 = 14 then
    Option.bind (pX4_heir σ) fun r206 =>
    some r206
  else if x1 = 15 then
    some (σ.1 24)
  else if x1 = 16 then
    some (σ.1 25)
  else if x1 = 17 then
    some (σ.1 23)
  else (
    some (-1000000002)))
def pX10_told (σ : St) (x1 : Int) : Option (Int) := pX10_told_0 σ x1
def pX11_king_2 (σ : St) : Nat → Int → Option (Int)
  | 0, _ => none
  | n + 1, x1 =>
    gd (rg x1 ∧ rg (σ.1 2)) (
    if (σ.1 2) ≤ x1 then
      some (-1)
    else
      gd (0 ≤ x1 ∧ x1 < 19) (
      gd (rg (σ.2 5 (Int.toNat x1))) (
      if (σ.2 5 (Int.toNat x1)) = 3 then
        some x1
      else
        pX11_king_2 σ n (x1 + 1))))
def pX11_king_0 (σ : St) : Option (Int) :=
  pX11_king_2 σ FU 0
def pX11_king (σ : St) : Option (Int) := pX11_king_0 σ
def pX11_allThat_30 (k4 : Int → Int → Int → Option (Int)) (σ : St) (x1 : Int) (x3 : Int) (t0 : Int) (t1 : Int) : Option (Int) :=
  k4 x1 (zOr t0 t1) (x3 + 1)
def pX11_allThat_4 (σ : St) : Nat → Int → Int → Int → Option (Int)
  | 0, _, _, _ => none
  | n + 1, x1, x2, x3 =>
    gd (rg x3 ∧ rg (σ.1 2)) (
    if (σ.1 2) ≤ x3 then
      some x2
    else
      gd (0 ≤ x3 ∧ x3 < 19) (
      gd (rg (σ.2 5 (Int.toNat x3)) ∧ rg x1) (
      if (σ.2 5 (Int.toNat x3)) = x1 then
        pX11_allThat_30 ((pX11_allThat_4 σ n)) σ x1 x3 x2 (zShl 1 x3)
      else
        pX11_allThat_30 ((pX11_allThat_4 σ n)) σ x1 x3 x2 0)))
def pX11_allThat_0 (σ : St) (x1 : Int) : Option (Int) :=
  pX11_allThat_4 σ FU x1 0 0
def pX11_allThat (σ : St) (x1 : Int) : Option (Int) := pX11_allThat_0 σ x1
def pX11_hardBy_0 (σ : St) (x1 : Int) (x2 : Int) : Option (Int) :=
  gd (0 ≤ x1 ∧ x1 < 7) (
  gd (0 ≤ x1 ∧ x1 < 7) (
  gd (dv (σ.2 0 (Int.toNat x1)) 3) (
  gd (rg (((10 * x2) - (5 * (σ.2 1 (Int.toNat x1)))) + ((σ.2 0 (Int.toNat x1)) / 3))) (
  if 0 ≤ (((10 * x2) - (5 * (σ.2 1 (Int.toNat x1)))) + ((σ.2 0 (Int.toNat x1)) / 3)) then
    gd (rg (((10 * x2) - (5 * (σ.2 1 (Int.toNat x1)))) + ((σ.2 0 (Int.toNat x1)) / 3))) (
    if 99 ≤ (((10 * x2) - (5 * (σ.2 1 (Int.toNat x1)))) + ((σ.2 0 (Int.toNat x1)) / 3)) then
      some 99
    else
      some (((10 * x2) - (5 * (σ.2 1 (Int.toNat x1)))) + ((σ.2 0 (Int.toNat x1)) / 3)))
  else
    some 0))))
def pX11_hardBy (σ : St) (x1 : Int) (x2 : Int) : Option (Int) := pX11_hardBy_0 σ x1 x2
def pX11_hard_0 (σ : St) (x1 : Int) : Option (Int) :=
  gd (0 ≤ (7 + x1) ∧ (7 + x1) < 19) (
  Option.bind (pX11_hardBy σ x1 (σ.2 5 (Int.toNat (7 + x1)))) fun r11 =>
  some r11)
def pX11_hard (σ : St) (x1 : Int) : Option (Int) := pX11_hard_0 σ x1
def pX11_pretenders_38 (k4 : Int → Int → Option (Int)) (σ : St) (x2 : Int) (t0 : Int) (t1 : Int) : Option (Int) :=
  k4 (zOr t0 t1) (x2 + 1)
def pX11_pretenders_37 (k4 : Int → Int → Option (Int)) (σ : St) (x2 : Int) (t0 : Int) : Option (Int) :=
  pX11_pretenders_38 k4 σ x2 t0 0
def pX11_pretenders_4 (σ : St) : Nat → Int → Int → Option (Int)
  | 0, _, _ => none
  | n + 1, x1, x2 =>
    gd (rg x2 ∧ rg (σ.1 2)) (
    if (σ.1 2) ≤ x2 then
      some x1
    else
      gd (0 ≤ x2 ∧ x2 < 19) (
      gd (rg (σ.2 5 (Int.toNat x2))) (
      if (σ.2 5 (Int.toNat x2)) = 2 then
        Option.bind (pX11_hard σ x2) fun r25 =>
        gd (rg r25) (
        if r25 = 0 then
          pX11_pretenders_38 ((pX11_pretenders_4 σ n)) σ x2 x1 (zShl 1 x2)
        else
          pX11_pretenders_37 ((pX11_pretenders_4 σ n)) σ x2 x1)
      else
        pX11_pretenders_37 ((pX11_pretenders_4 σ n)) σ x2 x1)))
def pX11_pretenders_0 (σ : St) : Option (Int) :=
  pX11_pretenders_4 σ FU 0 0
def pX11_pretenders (σ : St) : Option (Int) := pX11_pretenders_0 σ
def pX11_reignBy_0 (σ : St) (x1 : Int) (x2 : Int) : Option (Int) :=
  Option.bind (pX11_hardBy σ x1 x2) fun r4 =>
  gd (dv r4 10) (
  gd (0 ≤ x1 ∧ x1 < 7) (
  some ((1 + (r4 / 10)) + (σ.2 1 (Int.toNat x1)))))
def pX11_reignBy (σ : St) (x1 : Int) (x2 : Int) : Option (Int) := pX11_reignBy_0 σ x1 x2
def pX11_reign_0 (σ : St) (x1 : Int) : Option (Int) :=
  gd (0 ≤ (7 + x1) ∧ (7 + x1) < 19) (
  Option.bind (pX11_reignBy σ x1 (σ.2 5 (Int.toNat (7 + x1)))) fun r11 =>
  some r11)
def pX11_reign (σ : St) (x1 : Int) : Option (Int) := pX11_reign_0 σ x1
def pX11_heir_54 (k4 : Int → Int → Option (Int)) (σ : St) (x2 : Int) (t0 : Int) : Option (Int) :=
  k4 t0 (x2 + 1)
def pX11_heir_53 (k4 : Int → Int → Option (Int)) (σ : St) (x1 : Int) (x2 : Int) : Option (Int) :=
  pX11_heir_54 k4 σ x2 x1
def pX11_heir_34 (k4 : Int → Int → Option (Int)) (σ : St) (x1 : Int) (x2 : Int) (t0 : Int) : Option (Int) :=
  gd (0 ≤ x2 ∧ x2 < 19) (
  gd (rg (σ.2 5 (Int.toNat x2))) (
  if (σ.2 5 (Int.toNat x2)) = 2 then
    gd (rg t0) (
    if t0 = 0 then
      pX11_heir_53 k4 σ x1 x2
    else
      pX11_heir_54 k4 σ x2 x2)
  else
    pX11_heir_53 k4 σ x1 x2))
def pX11_heir_29 (k4 : Int → Int → Option (Int)) (σ : St) (x1 : Int) (x2 : Int) : Option (Int) :=
  pX11_heir_34 k4 σ x1 x2 1
def pX11_heir_4 (σ : St) : Nat → Int → Int → Option (Int)
  | 0, _, _ => none
  | n + 1, x1, x2 =>
    gd (rg x2 ∧ rg (σ.1 2)) (
    if (σ.1 2) ≤ x2 then
      some x1
    else
      gd (rg x1) (
      if x1 < 0 then
        pX11_heir_29 ((pX11_heir_4 σ n)) σ x1 x2
      else
        Option.bind (pX11_reign σ x2) fun r18 =>
        Option.bind (pX11_reign σ x1) fun r23 =>
        gd (rg r18 ∧ rg r23) (
        if r18 ≤ r23 then
          pX11_heir_34 ((pX11_heir_4 σ n)) σ x1 x2 0
        else
          pX11_heir_29 ((pX11_heir_4 σ n)) σ x1 x2)))
def pX11_heir_0 (σ : St) : Option (Int) :=
  pX11_heir_4 σ FU (-1) 0
def pX11_heir (σ : St) : Option (Int) := pX11_heir_0 σ
def pX11_told_0 (σ : St) (x1 : Int) : Option (Int) :=
  gd (rg x1) (
  if x1 = 0 then
    some (σ.1 0)
  else if x1 = 1 then
    some (σ.2 5 14)
  else if x1 = 2 then
    some (σ.1 1)
  else if x1 = 3 then
    some (σ.1 2)
  else if x1 = 4 then
    some (σ.1 3)
  else if x1 = 5 then
    some (σ.1 5)
  else if x1 = 6 then
    some (σ.2 5 16)
  else if x1 = 7 then
    Option.bind (pX11_king σ) fun r130 =>
    some r130
  else if x1 = 8 then
    some (σ.2 5 15)
  else if x1 = 9 then
    some (σ.2 5 17)
  else if x1 = 10 then
    some (σ.2 5 18)
  else if x1 = 11 then
    Option.bind (pX11_allThat σ 1) fun r160 =>
    some r160
  else if x1 = 12 then
    Option.bind (pX11_allThat σ 2) fun r166 =>
    some r166
  else if x1 = 13 then
    Option.bind (pX11_pretenders σ) fun r171 =>
    some r171
  else if x1 = 14 then
    Option.bind (pX11_heir σ) fun r176 =>
    some r176
  else if x1 = 15 then
    some (σ.1 13)
  else if x1 = 16 then
    some (σ.1 14)
  else if x1 = 17 then
    some (σ.1 12)
  else (
    some (-1000000002)))
def pX11_told (σ : St) (x1 : Int) : Option (Int) := pX11_told_0 σ x1
def pX8_ageOf_c1_0 (σ : St) (x1 : Int) : Option (Int) :=
  Option.bind (pX8_hasEgg_c1 σ x1) fun r2 =>
  gd (rg r2) (
  if r2 = 0 then
    some 0
  else
    gd (0 ≤ x1 ∧ x1 < 7) (
    some (σ.2 0 (Int.toNat x1))))
def pX8_ageOf_c1 (σ : St) (x1 : Int) : Option (Int) := pX8_ageOf_c1_0 σ x1
def pX8_wishOf_c1_0 (σ : St) (x1 : Int) : Option (Int) :=
  Option.bind (pX8_hasEgg_c1 σ x1) fun r2 =>
  gd (rg r2) (
  if r2 = 0 then
    some 0
  else
    gd (0 ≤ x1 ∧ x1 < 7) (
    some (σ.2 2 (Int.toNat x1))))
def pX8_wishOf_c1 (σ : St) (x1 : Int) : Option (Int) := pX8_wishOf_c1_0 σ x1
def pX10_egg_0 (σ : St) (x1 : Int) (x2 : Int) : Option (Int) :=
  Option.bind (pX8_hasEgg_c1 σ x1) fun r5 =>
  gd (rg r5) (
  if r5 = 0 then
    some (-1000000001)
  else
    gd (rg x2) (
    if x2 = 0 then
      Option.bind (pX8_ageOf_c1 σ x1) fun r61 =>
      some r61
    else if x2 = 1 then
      Option.bind (pX8_sizeOf_c1 σ x1) fun r70 =>
      some r70
    else if x2 = 2 then
      Option.bind (pX4_stateOf σ x1) fun r79 =>
      some r79
    else if x2 = 3 then
      Option.bind (pX4_boiledOf σ x1) fun r88 =>
      some r88
    else if x2 = 4 then
      Option.bind (pX4_hardnessOf σ x1) fun r97 =>
      some r97
    else if x2 = 5 then
      Option.bind (pX4_reignOf σ x1) fun r106 =>
      some r106
    else if x2 = 6 then
      Option.bind (pX8_wishOf_c1 σ x1) fun r115 =>
      some r115
    else (
      some (-1000000002))))
def pX10_egg (σ : St) (x1 : Int) (x2 : Int) : Option (Int) := pX10_egg_0 σ x1 x2
def pX11_isEgg_0 (σ : St) (x1 : Int) : Option (Int) :=
  gd (rg x1) (
  gd (rg ((σ.1 2) - 1)) (
  Option.bind (pX11_in x1 0 ((σ.1 2) - 1)) fun r10 =>
  gd (r10 = 0 ∨ r10 = 1) (
  some r10)))
def pX11_isEgg (σ : St) (x1 : Int) : Option (Int) := pX11_isEgg_0 σ x1
def pX11_egg_0 (σ : St) (x1 : Int) (x2 : Int) : Option (Int) :=
  Option.bind (pX11_isEgg σ x1) fun r2 =>
  gd (rg r2) (
  if r2 = 0 then
    some (-1000000001)
  else
    gd (rg x2) (
    if x2 = 0 then
      gd (0 ≤ x1 ∧ x1 < 7) (
      some (σ.2 0 (Int.toNat x1)))
    else if x2 = 1 then
      gd (0 ≤ x1 ∧ x1 < 7) (
      some (σ.2 1 (Int.toNat x1)))
    else if x2 = 2 then
      gd (0 ≤ x1 ∧ x1 < 19) (
      some (σ.2 5 (Int.toNat x1)))
    else if x2 = 3 then
      gd (0 ≤ (7 + x1) ∧ (7 + x1) < 19) (
      some (σ.2 5 (Int.toNat (7 + x1))))
    else if x2 = 4 then
      Option.bind (pX11_hard σ x1) fun r89 =>
      some r89
    else if x2 = 5 then
      Option.bind (pX11_reign σ x1) fun r95 =>
      some r95
    else if x2 = 6 then
      gd (0 ≤ x1 ∧ x1 < 7) (
      some (σ.2 4 (Int.toNat x1)))
    else (
      some (-1000000002))))
def pX11_egg (σ : St) (x1 : Int) (x2 : Int) : Option (Int) := pX11_egg_0 σ x1 x2
def pX8_hasEater_c1_0 (σ : St) (x1 : Int) : Option (Int) :=
  gd (rg x1) (
  if x1 < 0 then
    some 0
  else
    gd (rg x1 ∧ rg (σ.1 6)) (
    if (σ.1 6) ≤ x1 then
      some 0
    else
      gd (rg x1) (
      if 5 ≤ x1 then
        some 0
      else
        some 1)))
def pX8_hasEater_c1 (σ : St) (x1 : Int) : Option (Int) := pX8_hasEater_c1_0 σ x1
def pX8_softestFor_c1_0 (σ : St) (x1 : Int) : Option (Int) :=
  Option.bind (pX8_hasEater_c1 σ x1) fun r2 =>
  gd (rg r2) (
  if r2 = 0 then
    some 0
  else
    gd (0 ≤ x1 ∧ x1 < 5) (
    some (σ.2 3 (Int.toNat x1))))
def pX8_softestFor_c1 (σ : St) (x1 : Int) : Option (Int) := pX8_softestFor_c1_0 σ x1
def pX8_hardestFor_c1_0 (σ : St) (x1 : Int) : Option (Int) :=
  Option.bind (pX8_hasEater_c1 σ x1) fun r2 =>
  gd (rg r2) (
  if r2 = 0 then
    some 0
  else
    gd (0 ≤ x1 ∧ x1 < 5) (
    some (σ.2 4 (Int.toNat x1))))
def pX8_hardestFor_c1 (σ : St) (x1 : Int) : Option (Int) := pX8_hardestFor_c1_0 σ x1
def pX10_eater_0 (σ : St) (x1 : Int) (x2 : Int) : Option (Int) :=
  Option.bind (pX8_hasEater_c1 σ x1) fun r5 =>
  gd (rg r5) (
  if r5 = 0 then
    some (-1000000001)
  else
    gd (rg x2) (
    if x2 = 0 then
      Option.bind (pX8_softestFor_c1 σ x1) fun r45 =>
      some r45
    else if x2 = 1 then
      Option.bind (pX8_hardestFor_c1 σ x1) fun r54 =>
      some r54
    else (
      some (-1000000002))))
def pX10_eater (σ : St) (x1 : Int) (x2 : Int) : Option (Int) := pX10_eater_0 σ x1 x2
def pX11_isEater_0 (σ : St) (x1 : Int) : Option (Int) :=
  gd (rg x1) (
  gd (rg ((σ.1 3) - 1)) (
  Option.bind (pX11_in x1 0 ((σ.1 3) - 1)) fun r10 =>
  gd (r10 = 0 ∨ r10 = 1) (
  some r10)))
def pX11_isEater (σ : St) (x1 : Int) : Option (Int) := pX11_isEater_0 σ x1
def pX11_eater_0 (σ : St) (x1 : Int) (x2 : Int) : Option (Int) :=
  Option.bind (pX11_isEater σ x1) fun r2 =>
  gd (rg r2) (
  if r2 = 0 then
    some (-1000000001)
  else
    gd (rg x2) (
    if x2 = 0 then
      gd (0 ≤ x1 ∧ x1 < 5) (
      some (σ.2 2 (Int.toNat x1)))
    else
      gd (rg x2) (
      if x2 = 1 then
        gd (0 ≤ x1 ∧ x1 < 5) (
        some (σ.2 3 (Int.toNat x1)))
      else
        some (-1000000002))))
def pX11_eater (σ : St) (x1 : Int) (x2 : Int) : Option (Int) := pX11_eater_0 σ x1 x2
def pX4_setState_0 (σ : St) (x1 : Int) (x2 : Int) : Option (St) :=
  Option.bind (pX8_hasEgg_c1 σ x1) fun r5 =>
  gd (rg r5) (
  if r5 = 0 then
    some σ
  else
    gd (0 ≤ x1 ∧ x1 < 7) (
    nm (sA σ 11 (va_up (σ.2 11) (Int.toNat x1) x2)) fun σ17 =>
    some σ17))
def pX4_setState (σ : St) (x1 : Int) (x2 : Int) : Option (St) := pX4_setState_0 σ x1 x2
def pX4_endReign_0 (σ : St) (x1 : Int) : Option (St) :=
  Option.bind (pX4_setState σ (σ.1 16) x1) fun σ6 =>
  nm (sI σ6 16 (-1)) fun σ11 =>
  nm (sI σ11 17 0) fun σ16 =>
  some σ16
def pX4_endReign (σ : St) (x1 : Int) : Option (St) := pX4_endReign_0 σ x1
def pX4_passMinuteOfKing_0 (σ : St) : Option (St) :=
  gd (rg (σ.1 18)) (
  if 2 ≤ (σ.1 18) then
    nm (sI σ 18 ((σ.1 18) - 2)) fun σ21 =>
    nm (sI σ21 20 ((σ21.1 20) + 1)) fun σ31 =>
    nm (sI σ31 17 ((σ31.1 17) - 1)) fun σ41 =>
    gd (rg (σ41.1 17)) (
    if 0 < (σ41.1 17) then
      some σ41
    else
      nm (sI σ41 21 ((σ41.1 21) + 1)) fun σ58 =>
      Option.bind (pX4_endReign σ58 4) fun σ63 =>
      some σ63)
  else
    Option.bind (pX4_endReign σ 0) fun σ10 =>
    some σ10)
def pX4_passMinuteOfKing (σ : St) : Option (St) := pX4_passMinuteOfKing_0 σ
def pX4_boilOneMore_47 (σ : St) (t1 : Int) (t2 : Int) : Option (St) :=
  gd (0 ≤ t1 ∧ t1 < 7) (
  nm (sA σ 11 (va_up (σ.2 11) (Int.toNat t1) t2)) fun σ47 =>
  some σ47)
def pX4_boilOneMore_0 (σ : St) (x1 : Int) : Option (St) :=
  Option.bind (pX8_hasEgg_c1 σ x1) fun r5 =>
  gd (rg r5) (
  if r5 = 0 then
    some σ
  else
    gd (0 ≤ x1 ∧ x1 < 7) (
    gd (0 ≤ x1 ∧ x1 < 7) (
    nm (sA σ 12 (va_up (σ.2 12) (Int.toNat x1) ((σ.2 12 (Int.toNat x1)) + 1))) fun σ20 =>
    gd (0 ≤ x1 ∧ x1 < 7) (
    gd (rg (σ20.2 12 (Int.toNat x1)) ∧ rg (σ20.1 4)) (
    if (σ20.2 12 (Int.toNat x1)) ≤ (σ20.1 4) then
      pX4_boilOneMore_47 σ20 x1 1
    else
      pX4_boilOneMore_47 σ20 x1 5)))))
def pX4_boilOneMore (σ : St) (x1 : Int) : Option (St) := pX4_boilOneMore_0 σ x1
def pX4_passMinute_32 (k12 : St → Int → Option (St)) (σ : St) (x1 : Int) : Option (St) :=
  k12 σ (x1 + 1)
def pX4_passMinute_12 : Nat → St → Int → Option (St)
  | 0, _, _ => none
  | n + 1, σ, x1 =>
    gd (rg x1) (
    if 7 ≤ x1 then
      gd (rg (σ.1 16)) (
      if (σ.1 16) = (-1) then
        some σ
      else
        Option.bind (pX4_passMinuteOfKing σ) fun σ47 =>
        some σ47)
    else
      Option.bind (pX4_stateOf σ x1) fun r20 =>
      gd (rg r20) (
      if r20 = 1 then
        Option.bind (pX4_boilOneMore σ x1) fun σ29 =>
        pX4_passMinute_32 ((pX4_passMinute_12 n)) σ29 x1
      else
        pX4_passMinute_32 ((pX4_passMinute_12 n)) σ x1))
def pX4_passMinute_0 (σ : St) : Option (St) :=
  nm (sI σ 19 ((σ.1 19) + 1)) fun σ7 =>
  pX4_passMinute_12 FU σ7 0
def pX4_passMinute (σ : St) : Option (St) := pX4_passMinute_0 σ
def pX8_isLaid_c1_0 (σ : St) : Option (Int) :=
  gd (rg (σ.1 2)) (
  if (σ.1 2) ≤ 0 then
    some 0
  else
    some 1)
def pX8_isLaid_c1 (σ : St) : Option (Int) := pX8_isLaid_c1_0 σ
def pX10_refusalOfMinutes_0 (σ : St) (x1 : Int) : Option (Int) :=
  Option.bind (pX10_isWithin x1 1 60) fun r4 =>
  gd (rg r4) (
  if r4 = 0 then
    some (-1000000002)
  else
    Option.bind (pX8_isLaid_c1 σ) fun r17 =>
    gd (rg r17) (
    if r17 = 0 then
      some (-1000000003)
    else
      gd (rg (σ.1 19)) (
      if (σ.1 19) ≤ 9000 then
        some 0
      else
        some (-1000000004))))
def pX10_refusalOfMinutes (σ : St) (x1 : Int) : Option (Int) := pX10_refusalOfMinutes_0 σ x1
def pX4_isRow_a19_0 (σ : St) (x1 : Int) : Option (Int) :=
  gd (rg x1) (
  if x1 < 0 then
    some 0
  else
    gd (rg x1 ∧ rg (400 - 20)) (
    if (400 - 20) < x1 then
      some 0
    else
      some 1))
def pX4_isRow_a19 (σ : St) (x1 : Int) : Option (Int) := pX4_isRow_a19_0 σ x1
def pX4_saveTo_a19_0 (σ : St) (x2 : Int) : Option (St) :=
  Option.bind (pX4_isRow_a19 σ x2) fun r2 =>
  gd (rg r2) (
  if r2 = 0 then
    some σ
  else
    gd ((0 : Int) ≤ 0 ∧ (0 : Int) ≤ x2 ∧ (0 : Int) ≤ 7 ∧ (0 : Int) + 7 ≤ 7 ∧ (x2 : Int) + 7 ≤ 400) (
    nm (sA σ 13 (va_cpy (σ.2 11) (σ.2 13) 0 (Int.toNat x2) 7)) fun σ18 =>
    gd ((0 : Int) ≤ 0 ∧ (0 : Int) ≤ (x2 + 7) ∧ (0 : Int) ≤ 7 ∧ (0 : Int) + 7 ≤ 7 ∧ ((x2 + 7) : Int) + 7 ≤ 400) (
    nm (sA σ18 13 (va_cpy (σ18.2 12) (σ18.2 13) 0 (Int.toNat (x2 + 7)) 7)) fun σ33 =>
    gd (0 ≤ (x2 + 14) ∧ (x2 + 14) < 400) (
    nm (sA σ33 13 (va_up (σ33.2 13) (Int.toNat (x2 + 14)) (σ33.1 16))) fun σ47 =>
    gd (0 ≤ ((x2 + 14) + 1) ∧ ((x2 + 14) + 1) < 400) (
    nm (sA σ47 13 (va_up (σ47.2 13) (Int.toNat ((x2 + 14) + 1)) (σ47.1 17))) fun σ56 =>
    gd (0 ≤ ((x2 + 14) + 2) ∧ ((x2 + 14) + 2) < 400) (
    nm (sA σ56 13 (va_up (σ56.2 13) (Int.toNat ((x2 + 14) + 2)) (σ56.1 18))) fun σ65 =>
    gd (0 ≤ ((x2 + 14) + 3) ∧ ((x2 + 14) + 3) < 400) (
    nm (sA σ65 13 (va_up (σ65.2 13) (Int.toNat ((x2 + 14) + 3)) (σ65.1 19))) fun σ74 =>
    gd (0 ≤ ((x2 + 14) + 4) ∧ ((x2 + 14) + 4) < 400) (
    nm (sA σ74 13 (va_up (σ74.2 13) (Int.toNat ((x2 + 14) + 4)) (σ74.1 20))) fun σ83 =>
    gd (0 ≤ ((x2 + 14) + 5) ∧ ((x2 + 14) + 5) < 400) (
    nm (sA σ83 13 (va_up (σ83.2 13) (Int.toNat ((x2 + 14) + 5)) (σ83.1 21))) fun σ92 =>
    some σ92)))))))))
def pX4_saveTo_a19 (σ : St) (x2 : Int) : Option (St) := pX4_saveTo_a19_0 σ x2
def pX5_remember_0 (σ : St) : Option (St) :=
  gd (dv ((σ.1 22) + (σ.1 23)) 20) (
  Option.bind (pX4_saveTo_a19 σ ((((σ.1 22) + (σ.1 23)) % 20) * 20)) fun σ22 =>
  gd (rg (σ22.1 23)) (
  if 20 ≤ (σ22.1 23) then
    gd (dv ((σ22.1 22) + 1) 20) (
    nm (sI σ22 22 (((σ22.1 22) + 1) % 20)) fun σ57 =>
    some σ57)
  else
    nm (sI σ22 23 ((σ22.1 23) + 1)) fun σ41 =>
    some σ41))
def pX5_remember (σ : St) : Option (St) := pX5_remember_0 σ
def pX10_minute_25 : Nat → St → Int → Int → Option (Int × St)
  | 0, _, _, _ => none
  | n + 1, σ, x1, x3 =>
    gd (rg x3 ∧ rg x1) (
    if x1 ≤ x3 then
      some ((σ.1 19), σ)
    else
      Option.bind (pX4_passMinute σ) fun σ34 =>
      pX10_minute_25 n σ34 x1 (x3 + 1))
def pX10_minute_0 (σ : St) (x1 : Int) : Option (Int × St) :=
  Option.bind (pX10_refusalOfMinutes σ x1) fun r2 =>
  gd (rg r2) (
  if r2 = 0 then
    Option.bind (pX5_remember σ) fun σ20 =>
    pX10_minute_25 FU σ20 x1 0
  else
    some (r2, σ))
def pX10_minute (σ : St) (x1 : Int) : Option (Int × St) := pX10_minute_0 σ x1
def pX11_pass_60 (k2 : St → Int → Option (St)) (σ : St) (x1 : Int) : Option (St) :=
  k2 σ (x1 + 1)
def pX11_pass_59 (k2 : St → Int → Option (St)) (σ : St) (x1 : Int) (t1 : Int) (t2 : Int) : Option (St) :=
  gd (0 ≤ t1 ∧ t1 < 19) (
  nm (sA σ 5 (va_up (σ.2 5) (Int.toNat t1) t2)) fun σ59 =>
  pX11_pass_60 k2 σ59 x1)
def pX11_pass_187 (σ : St) : Option (St) :=
  nm (sA σ 5 (va_up (σ.2 5) 16 ((σ.2 5 16) + 1))) fun σ197 =>
  some σ197
def pX11_pass_164 (σ : St) (t1 : Int) (t2 : Int) : Option (St) :=
  gd (0 ≤ t1 ∧ t1 < 19) (
  nm (sA σ 5 (va_up (σ.2 5) (Int.toNat t1) t2)) fun σ164 =>
  pX11_pass_187 σ164)
def pX11_pass_142 (σ : St) (x1 : Int) (t1 : Int) (t2 : Int) (t3 : Int) : Option (St) :=
  gd (0 ≤ t1 ∧ t1 < 19) (
  nm (sA σ 5 (va_up (σ.2 5) (Int.toNat t1) (t2 + t3))) fun σ143 =>
  gd (rg (σ143.2 5 15)) (
  if (σ143.2 5 15) = 0 then
    pX11_pass_164 σ143 x1 4
  else
    pX11_pass_164 σ143 x1 3))
def pX11_pass_168 (σ : St) (x1 : Int) : Option (St) :=
  gd (rg x1) (
  if x1 < 0 then
    pX11_pass_187 σ
  else
    gd (0 ≤ x1 ∧ x1 < 19) (
    nm (sA σ 5 (va_up (σ.2 5) (Int.toNat x1) 0)) fun σ178 =>
    nm (sA σ178 5 (va_up (σ178.2 5) 15 0)) fun σ186 =>
    pX11_pass_187 σ186))
def pX11_pass_2 : Nat → St → Int → Option (St)
  | 0, _, _ => none
  | n + 1, σ, x1 =>
    gd (rg x1 ∧ rg (σ.1 2)) (
    if (σ.1 2) ≤ x1 then
      Option.bind (pX11_king σ) fun r67 =>
      gd (rg r67) (
      if r67 < 0 then
        pX11_pass_168 σ r67
      else
        gd (rg (σ.2 5 14)) (
        if (σ.2 5 14) ≤ 1 then
          pX11_pass_168 σ r67
        else
          nm (sA σ 5 (va_up (σ.2 5) 14 ((σ.2 5 14) - 2))) fun σ96 =>
          nm (sA σ96 5 (va_up (σ96.2 5) 15 ((σ96.2 5 15) - 1))) fun σ107 =>
          nm (sA σ107 5 (va_up (σ107.2 5) 17 ((σ107.2 5 17) + 1))) fun σ118 =>
          gd (rg (σ118.2 5 15)) (
          if (σ118.2 5 15) = 0 then
            pX11_pass_142 σ118 r67 18 (σ118.2 5 18) 1
          else
            pX11_pass_142 σ118 r67 18 (σ118.2 5 18) 0)))
    else
      gd (0 ≤ x1 ∧ x1 < 19) (
      gd (rg (σ.2 5 (Int.toNat x1))) (
      if (σ.2 5 (Int.toNat x1)) = 1 then
        gd (0 ≤ (7 + x1) ∧ (7 + x1) < 19) (
        gd (0 ≤ (7 + x1) ∧ (7 + x1) < 19) (
        nm (sA σ 5 (va_up (σ.2 5) (Int.toNat (7 + x1)) ((σ.2 5 (Int.toNat (7 + x1))) + 1))) fun σ32 =>
        gd (0 ≤ (7 + x1) ∧ (7 + x1) < 19) (
        gd (rg (σ32.2 5 (Int.toNat (7 + x1))) ∧ rg (σ32.1 1)) (
        if (σ32.2 5 (Int.toNat (7 + x1))) ≤ (σ32.1 1) then
          pX11_pass_59 ((pX11_pass_2 n)) σ32 x1 x1 1
        else
          pX11_pass_59 ((pX11_pass_2 n)) σ32 x1 x1 5))))
      else
        pX11_pass_60 ((pX11_pass_2 n)) σ x1)))
def pX11_pass_0 (σ : St) : Option (St) :=
  pX11_pass_2 FU σ 0
def pX11_pass (σ : St) : Option (St) := pX11_pass_0 σ
def pX11_minutesRefused_0 (σ : St) (x1 : Int) : Option (Int) :=
  gd (rg x1) (
  Option.bind (pX11_in x1 1 60) fun r6 =>
  gd (rg r6) (
  if r6 = 0 then
    some (-1000000002)
  else
    gd (rg (σ.1 0)) (
    if (σ.1 0) = 0 then
      some (-1000000003)
    else
      gd (rg (σ.2 5 16)) (
      if (σ.2 5 16) ≤ 9000 then
        some 0
      else
        some (-1000000004)))))
def pX11_minutesRefused (σ : St) (x1 : Int) : Option (Int) := pX11_minutesRefused_0 σ x1
def pX11_remember_52 : Nat → St → Int → Option (St)
  | 0, _, _ => none
  | n + 1, σ, x1 =>
    gd (rg x1) (
    if 19 ≤ x1 then
      nm (sI σ 12 ((σ.1 12) + 1)) fun σ91 =>
      some σ91
    else
      gd (0 ≤ x1 ∧ x1 < 19) (
      gd (0 ≤ ((19 * (σ.1 12)) + x1) ∧ ((19 * (σ.1 12)) + x1) < 380) (
      nm (sA σ 12 (va_up (σ.2 12) (Int.toNat ((19 * (σ.1 12)) + x1)) (σ.2 5 (Int.toNat x1)))) fun σ77 =>
      pX11_remember_52 n σ77 (x1 + 1))))
def pX11_remember_50 (σ : St) : Option (St) :=
  pX11_remember_52 FU σ 0
def pX11_remember_12 : Nat → St → Int → Option (St)
  | 0, _, _ => none
  | n + 1, σ, x1 =>
    gd (rg x1) (
    if 380 ≤ x1 then
      nm (sI σ 12 ((σ.1 12) - 1)) fun σ47 =>
      pX11_remember_50 σ47
    else
      gd (0 ≤ x1 ∧ x1 < 380) (
      gd (0 ≤ (x1 - 19) ∧ (x1 - 19) < 380) (
      nm (sA σ 12 (va_up (σ.2 12) (Int.toNat (x1 - 19)) (σ.2 12 (Int.toNat x1)))) fun σ33 =>
      pX11_remember_12 n σ33 (x1 + 1))))
def pX11_remember_0 (σ : St) : Option (St) :=
  gd (rg (σ.1 12)) (
  if (σ.1 12) = 20 then
    pX11_remember_12 FU σ 19
  else
    pX11_remember_50 σ)
def pX11_remember (σ : St) : Option (St) := pX11_remember_0 σ
def pX11_minute_18 : Nat → St → Int → Int → Option (Int × St)
  | 0, _, _, _ => none
  | n + 1, σ, x1, x3 =>
    gd (rg x3 ∧ rg x1) (
    if x1 ≤ x3 then
      some ((σ.2 5 16), σ)
    else
      Option.bind (pX11_pass σ) fun σ24 =>
      pX11_minute_18 n σ24 x1 (x3 + 1))
def pX11_minute_0 (σ : St) (x1 : Int) : Option (Int × St) :=
  Option.bind (pX11_minutesRefused σ x1) fun r2 =>
  gd (rg r2) (
  if r2 = 0 then
    Option.bind (pX11_remember σ) fun σ13 =>
    pX11_minute_18 FU σ13 x1 0
  else
    some (r2, σ))
def pX11_minute (σ : St) (x1 : Int) : Option (Int × St) := pX11_minute_0 σ x1
def pJ6_bitCount_0f7a4_0 (x0 : Int) : Option (Int) :=
  some (zAnd (((zAnd (((zAnd (x0 - (zAnd (zUshr x0 1) 1431655765)) 858993459) + (zAnd (zUshr (x0 - (zAnd (zUshr x0 1) 1431655765)) 2) 858993459)) + (zUshr ((zAnd (x0 - (zAnd (zUshr x0 1) 1431655765)) 858993459) + (zAnd (zUshr (x0 - (zAnd (zUshr x0 1) 1431655765)) 2) 858993459)) 4)) 252645135) + (zUshr (zAnd (((zAnd (x0 - (zAnd (zUshr x0 1) 1431655765)) 858993459) + (zAnd (zUshr (x0 - (zAnd (zUshr x0 1) 1431655765)) 2) 858993459)) + (zUshr ((zAnd (x0 - (zAnd (zUshr x0 1) 1431655765)) 858993459) + (zAnd (zUshr (x0 - (zAnd (zUshr x0 1) 1431655765)) 2) 858993459)) 4)) 252645135) 8)) + (zUshr ((zAnd (((zAnd (x0 - (zAnd (zUshr x0 1) 1431655765)) 858993459) + (zAnd (zUshr (x0 - (zAnd (zUshr x0 1) 1431655765)) 2) 858993459)) + (zUshr ((zAnd (x0 - (zAnd (zUshr x0 1) 1431655765)) 858993459) + (zAnd (zUshr (x0 - (zAnd (zUshr x0 1) 1431655765)) 2) 858993459)) 4)) 252645135) + (zUshr (zAnd (((zAnd (x0 - (zAnd (zUshr x0 1) 1431655765)) 858993459) + (zAnd (zUshr (x0 - (zAnd (zUshr x0 1) 1431655765)) 2) 858993459)) + (zUshr ((zAnd (x0 - (zAnd (zUshr x0 1) 1431655765)) 858993459) + (zAnd (zUshr (x0 - (zAnd (zUshr x0 1) 1431655765)) 2) 858993459)) 4)) 252645135) 8)) 16)) 63)
def pJ6_bitCount_0f7a4 (x0 : Int) : Option (Int) := pJ6_bitCount_0f7a4_0 x0
def pX4_howManyInPan_0 (σ : St) : Option (Int) :=
  Option.bind (pX4_setThatIs σ 1) fun r2 =>
  Option.bind (pJ6_bitCount_0f7a4 r2) fun r5 =>
  some r5
def pX4_howManyInPan (σ : St) : Option (Int) := pX4_howManyInPan_0 σ
def pX4_canGoIn_15 (σ : St) : Option (Int) :=
  Option.bind (pX4_howManyInPan σ) fun r16 =>
  gd (rg r16 ∧ rg (σ.1 2)) (
  if (σ.1 2) ≤ r16 then
    some 0
  else
    some 1)
def pX4_canGoIn_0 (σ : St) (x1 : Int) : Option (Int) :=
  Option.bind (pX4_stateOf σ x1) fun r2 =>
  gd (rg r2) (
  if r2 = 0 then
    pX4_canGoIn_15 σ
  else
    gd (rg r2) (
    if r2 = 2 then
      pX4_canGoIn_15 σ
    else
      some 0))
def pX4_canGoIn (σ : St) (x1 : Int) : Option (Int) := pX4_canGoIn_0 σ x1
def pX4_goIn_0 (σ : St) (x1 : Int) : Option (St) :=
  Option.bind (pX4_setState σ x1 1) fun σ3 =>
  some σ3
def pX4_goIn (σ : St) (x1 : Int) : Option (St) := pX4_goIn_0 σ x1
def pX10_put_0 (σ : St) (x1 : Int) : Option (Int × St) :=
  Option.bind (pX8_hasEgg_c1 σ x1) fun r5 =>
  gd (rg r5) (
  if r5 = 0 then
    some ((-1000000001), σ)
  else
    Option.bind (pX4_canGoIn σ x1) fun r19 =>
    gd (rg r19) (
    if r19 = 0 then
      some ((-1000000003), σ)
    else
      Option.bind (pX5_remember σ) fun σ36 =>
      Option.bind (pX4_goIn σ36 x1) fun σ44 =>
      Option.bind (pX4_howManyInPan σ44) fun r51 =>
      some (r51, σ44)))
def pX10_put (σ : St) (x1 : Int) : Option (Int × St) := pX10_put_0 σ x1
def pX11_inPan_28 (k4 : Int → Int → Option (Int)) (σ : St) (x2 : Int) (t0 : Int) (t1 : Int) : Option (Int) :=
  k4 (t0 + t1) (x2 + 1)
def pX11_inPan_4 (σ : St) : Nat → Int → Int → Option (Int)
  | 0, _, _ => none
  | n + 1, x1, x2 =>
    gd (rg x2 ∧ rg (σ.1 2)) (
    if (σ.1 2) ≤ x2 then
      some x1
    else
      gd (0 ≤ x2 ∧ x2 < 19) (
      gd (rg (σ.2 5 (Int.toNat x2))) (
      if (σ.2 5 (Int.toNat x2)) = 1 then
        pX11_inPan_28 ((pX11_inPan_4 σ n)) σ x2 x1 1
      else
        pX11_inPan_28 ((pX11_inPan_4 σ n)) σ x2 x1 0)))
def pX11_inPan_0 (σ : St) : Option (Int) :=
  pX11_inPan_4 σ FU 0 0
def pX11_inPan (σ : St) : Option (Int) := pX11_inPan_0 σ
def pX11_canPut_19 (σ : St) : Option (Int) :=
  Option.bind (pX11_inPan σ) fun r20 =>
  gd (rg r20 ∧ rg (σ.1 0)) (
  if (σ.1 0) ≤ r20 then
    some 0
  else
    some 1)
def pX11_canPut_0 (σ : St) (x1 : Int) : Option (Int) :=
  gd (0 ≤ x1 ∧ x1 < 19) (
  gd (rg (σ.2 5 (Int.toNat x1))) (
  if (σ.2 5 (Int.toNat x1)) = 0 then
    pX11_canPut_19 σ
  else
    gd (0 ≤ x1 ∧ x1 < 19) (
    gd (rg (σ.2 5 (Int.toNat x1))) (
    if (σ.2 5 (Int.toNat x1)) = 2 then
      pX11_canPut_19 σ
    else
      some 0))))
def pX11_canPut (σ : St) (x1 : Int) : Option (Int) := pX11_canPut_0 σ x1
def pX11_put_0 (σ : St) (x1 : Int) : Option (Int × St) :=
  Option.bind (pX11_isEgg σ x1) fun r2 =>
  gd (rg r2) (
  if r2 = 0 then
    some ((-1000000001), σ)
  else
    Option.bind (pX11_canPut σ x1) fun r13 =>
    gd (rg r13) (
    if r13 = 0 then
      some ((-1000000003), σ)
    else
      Option.bind (pX11_remember σ) fun σ23 =>
      gd (0 ≤ x1 ∧ x1 < 19) (
      nm (sA σ23 5 (va_up (σ23.2 5) (Int.toNat x1) 1)) fun σ32 =>
      Option.bind (pX11_inPan σ32) fun r34 =>
      some (r34, σ32))))
def pX11_put (σ : St) (x1 : Int) : Option (Int × St) := pX11_put_0 σ x1
def pX4_canComeOut_0 (σ : St) (x1 : Int) : Option (Int) :=
  Option.bind (pX4_stateOf σ x1) fun r2 =>
  gd (rg r2) (
  if r2 = 1 then
    some 1
  else
    some 0)
def pX4_canComeOut (σ : St) (x1 : Int) : Option (Int) := pX4_canComeOut_0 σ x1
def pX4_comeOut_0 (σ : St) (x1 : Int) : Option (St) :=
  Option.bind (pX4_setState σ x1 2) fun σ3 =>
  some σ3
def pX4_comeOut (σ : St) (x1 : Int) : Option (St) := pX4_comeOut_0 σ x1
def pX10_takeOut_0 (σ : St) (x1 : Int) : Option (Int × St) :=
  Option.bind (pX8_hasEgg_c1 σ x1) fun r5 =>
  gd (rg r5) (
  if r5 = 0 then
    some ((-1000000001), σ)
  else
    Option.bind (pX4_canComeOut σ x1) fun r19 =>
    gd (rg r19) (
    if r19 = 0 then
      some ((-1000000003), σ)
    else
      Option.bind (pX5_remember σ) fun σ36 =>
      Option.bind (pX4_comeOut σ36 x1) fun σ44 =>
      Option.bind (pX4_hardnessOf σ44 x1) fun r52 =>
      some (r52, σ44)))
def pX10_takeOut (σ : St) (x1 : Int) : Option (Int × St) := pX10_takeOut_0 σ x1
def pX11_takeOut_0 (σ : St) (x1 : Int) : Option (Int × St) :=
  Option.bind (pX11_isEgg σ x1) fun r2 =>
  gd (rg r2) (
  if r2 = 0 then
    some ((-1000000001), σ)
  else
    gd (0 ≤ x1 ∧ x1 < 19) (
    gd (rg (σ.2 5 (Int.toNat x1))) (
    if (σ.2 5 (Int.toNat x1)) = 1 then
      Option.bind (pX11_remember σ) fun σ25 =>
      gd (0 ≤ x1 ∧ x1 < 19) (
      nm (sA σ25 5 (va_up (σ25.2 5) (Int.toNat x1) 2)) fun σ34 =>
      Option.bind (pX11_hard σ34 x1) fun r37 =>
      some (r37, σ34))
    else
      some ((-1000000003), σ))))
def pX11_takeOut (σ : St) (x1 : Int) : Option (Int × St) := pX11_takeOut_0 σ x1
def pX4_canBeKing_0 (σ : St) (x1 : Int) : Option (Int) :=
  Option.bind (pX4_stateOf σ x1) fun r2 =>
  gd (rg r2) (
  if r2 = 2 then
    gd (rg (σ.1 16)) (
    if (σ.1 16) = (-1) then
      some 1
    else
      some 0)
  else
    some 0)
def pX4_canBeKing (σ : St) (x1 : Int) : Option (Int) := pX4_canBeKing_0 σ x1
def pX4_becomeKing_0 (σ : St) (x1 : Int) : Option (St) :=
  Option.bind (pX4_setState σ x1 3) fun σ3 =>
  nm (sI σ3 16 x1) fun σ8 =>
  Option.bind (pX4_reignOf σ8 x1) fun r14 =>
  nm (sI σ8 17 r14) fun σ17 =>
  some σ17
def pX4_becomeKing (σ : St) (x1 : Int) : Option (St) := pX4_becomeKing_0 σ x1
def pX10_crown_0 (σ : St) (x1 : Int) : Option (Int × St) :=
  Option.bind (pX8_hasEgg_c1 σ x1) fun r5 =>
  gd (rg r5) (
  if r5 = 0 then
    some ((-1000000001), σ)
  else
    Option.bind (pX4_canBeKing σ x1) fun r19 =>
    gd (rg r19) (
    if r19 = 0 then
      some ((-1000000003), σ)
    else
      Option.bind (pX5_remember σ) fun σ36 =>
      Option.bind (pX4_becomeKing σ36 x1) fun σ44 =>
      some ((σ44.1 17), σ44)))
def pX10_crown (σ : St) (x1 : Int) : Option (Int × St) := pX10_crown_0 σ x1
def pX11_canCrown_0 (σ : St) (x1 : Int) : Option (Int) :=
  gd (0 ≤ x1 ∧ x1 < 19) (
  gd (rg (σ.2 5 (Int.toNat x1))) (
  if (σ.2 5 (Int.toNat x1)) = 2 then
    Option.bind (pX11_king σ) fun r11 =>
    gd (rg r11) (
    if 0 ≤ r11 then
      some 0
    else
      some 1)
  else
    some 0))
def pX11_canCrown (σ : St) (x1 : Int) : Option (Int) := pX11_canCrown_0 σ x1
def pX11_crownNow_0 (σ : St) (x1 : Int) : Option (St) :=
  gd (0 ≤ x1 ∧ x1 < 19) (
  nm (sA σ 5 (va_up (σ.2 5) (Int.toNat x1) 3)) fun σ6 =>
  Option.bind (pX11_reign σ6 x1) fun r15 =>
  nm (sA σ6 5 (va_up (σ6.2 5) 15 r15)) fun σ18 =>
  some σ18)
def pX11_crownNow (σ : St) (x1 : Int) : Option (St) := pX11_crownNow_0 σ x1
def pX11_crown_0 (σ : St) (x1 : Int) : Option (Int × St) :=
  Option.bind (pX11_isEgg σ x1) fun r2 =>
  gd (rg r2) (
  if r2 = 0 then
    some ((-1000000001), σ)
  else
    Option.bind (pX11_canCrown σ x1) fun r13 =>
    gd (rg r13) (
    if r13 = 0 then
      some ((-1000000003), σ)
    else
      Option.bind (pX11_remember σ) fun σ23 =>
      Option.bind (pX11_crownNow σ23 x1) fun σ28 =>
      some ((σ28.2 5 15), σ28)))
def pX11_crown (σ : St) (x1 : Int) : Option (Int × St) := pX11_crown_0 σ x1
def pX10_cutToast_0 (σ : St) (x1 : Int) : Option (Int × St) :=
  Option.bind (pX10_isWithin x1 1 99) fun r4 =>
  gd (rg r4) (
  if r4 = 0 then
    some ((-1000000002), σ)
  else
    Option.bind (pX8_isLaid_c1 σ) fun r17 =>
    gd (rg r17) (
    if r17 = 0 then
      some ((-1000000003), σ)
    else
      Option.bind (pX5_remember σ) fun σ34 =>
      gd (rg ((σ34.1 18) + x1)) (
      nm (sI σ34 18 (min 999 ((σ34.1 18) + x1))) fun σ56 =>
      some ((σ56.1 18), σ56))))
def pX10_cutToast (σ : St) (x1 : Int) : Option (Int × St) := pX10_cutToast_0 σ x1
def pX11_cutToast_65 (σ : St) (t1 : Int) (t2 : Int) : Option (Int × St) :=
  gd (0 ≤ t1 ∧ t1 < 19) (
  nm (sA σ 5 (va_up (σ.2 5) (Int.toNat t1) t2)) fun σ65 =>
  some ((σ65.2 5 14), σ65))
def pX11_cutToast_0 (σ : St) (x1 : Int) : Option (Int × St) :=
  gd (rg x1) (
  Option.bind (pX11_in x1 1 99) fun r6 =>
  gd (rg r6) (
  if r6 = 0 then
    some ((-1000000002), σ)
  else
    gd (rg (σ.1 0)) (
    if (σ.1 0) = 0 then
      some ((-1000000003), σ)
    else
      Option.bind (pX11_remember σ) fun σ26 =>
      gd (rg ((σ26.2 5 14) + x1)) (
      if 999 ≤ ((σ26.2 5 14) + x1) then
        pX11_cutToast_65 σ26 14 999
      else
        pX11_cutToast_65 σ26 14 ((σ26.2 5 14) + x1)))))
def pX11_cutToast (σ : St) (x1 : Int) : Option (Int × St) := pX11_cutToast_0 σ x1
def pX10_draw_0 (σ : St) (x1 : Int) : Option (Int × St) :=
  gd (rg (σ.1 1)) (
  nm (sI σ 1 (zAndL (((σ.1 1) * 1103515245) + 12345) 2147483647)) fun σ19 =>
  gd (rg x1) (
  if x1 ≤ 0 then
    some (0, σ19)
  else
    gd (dv (σ19.1 1) 65536) (
    gd (dv ((σ19.1 1) / 65536) x1) (
    some ((((σ19.1 1) / 65536) % x1), σ19)))))
def pX10_draw (σ : St) (x1 : Int) : Option (Int × St) := pX10_draw_0 σ x1
def pX10_actByDraws_82 (σ : St) (x1 : Int) (x2 : Int) : Option (St) :=
  gd (rg x2) (
  if x2 = 2 then
    Option.bind (pX4_canBeKing σ x1) fun r92 =>
    gd (rg r92) (
    if r92 = 0 then
      some σ
    else
      Option.bind (pX4_becomeKing σ x1) fun σ103 =>
      some σ103)
  else
    some σ)
def pX10_actByDraws_55 (σ : St) (x1 : Int) (x2 : Int) : Option (St) :=
  gd (rg x2) (
  if x2 = 1 then
    Option.bind (pX4_canComeOut σ x1) fun r65 =>
    gd (rg r65) (
    if r65 = 0 then
      pX10_actByDraws_82 σ x1 x2
    else
      Option.bind (pX4_comeOut σ x1) fun σ76 =>
      some σ76)
  else
    pX10_actByDraws_82 σ x1 x2)
def pX10_actByDraws_0 (σ : St) : Option (St) :=
  gd (rg (σ.1 5)) (
  if 0 < (σ.1 5) then
    Option.bind (pX10_draw σ (σ.1 5)) fun u19 => nm u19.1 fun r19 => nm u19.2 fun σ19 =>
    Option.bind (pX10_draw σ19 3) fun u25 => nm u25.1 fun r25 => nm u25.2 fun σ25 =>
    gd (rg r25) (
    if r25 = 0 then
      Option.bind (pX4_canGoIn σ25 r19) fun r38 =>
      gd (rg r38) (
      if r38 = 0 then
        pX10_actByDraws_55 σ25 r19 r25
      else
        Option.bind (pX4_goIn σ25 r19) fun σ49 =>
        some σ49)
    else
      pX10_actByDraws_55 σ25 r19 r25)
  else
    some σ)
def pX10_actByDraws (σ : St) : Option (St) := pX10_actByDraws_0 σ
def pX10_drift_25 : Nat → St → Int → Int → Option (Int × St)
  | 0, _, _, _ => none
  | n + 1, σ, x1, x3 =>
    gd (rg x3 ∧ rg x1) (
    if x1 ≤ x3 then
      some ((σ.1 20), σ)
    else
      Option.bind (pX10_actByDraws σ) fun σ31 =>
      Option.bind (pX4_passMinute σ31) fun σ38 =>
      pX10_drift_25 n σ38 x1 (x3 + 1))
def pX10_drift_0 (σ : St) (x1 : Int) : Option (Int × St) :=
  Option.bind (pX10_refusalOfMinutes σ x1) fun r2 =>
  gd (rg r2) (
  if r2 = 0 then
    Option.bind (pX5_remember σ) fun σ20 =>
    pX10_drift_25 FU σ20 x1 0
  else
    some (r2, σ))
def pX10_drift (σ : St) (x1 : Int) : Option (Int × St) := pX10_drift_0 σ x1
def pX11_draw_0 (σ : St) (x1 : Int) : Option (Int × St) :=
  gd (rg (σ.1 4)) (
  gd (dvL (((σ.1 4) * 1103515245) + 12345) 2147483648) (
  nm (sI σ 4 ((((σ.1 4) * 1103515245) + 12345) % 2147483648)) fun σ19 =>
  gd (dv (σ19.1 4) 65536) (
  gd (dv ((σ19.1 4) / 65536) x1) (
  some ((((σ19.1 4) / 65536) % x1), σ19)))))
def pX11_draw (σ : St) (x1 : Int) : Option (Int × St) := pX11_draw_0 σ x1
def pX11_chance_62 (σ : St) (x1 : Int) (x2 : Int) : Option (St) :=
  gd (rg x2) (
  if x2 = 2 then
    Option.bind (pX11_canCrown σ x1) fun r69 =>
    gd (rg r69) (
    if r69 = 0 then
      some σ
    else
      Option.bind (pX11_crownNow σ x1) fun σ77 =>
      some σ77)
  else
    some σ)
def pX11_chance_37 (σ : St) (x1 : Int) (x2 : Int) : Option (St) :=
  gd (rg x2) (
  if x2 = 1 then
    gd (0 ≤ x1 ∧ x1 < 19) (
    gd (rg (σ.2 5 (Int.toNat x1))) (
    if (σ.2 5 (Int.toNat x1)) = 1 then
      gd (0 ≤ x1 ∧ x1 < 19) (
      nm (sA σ 5 (va_up (σ.2 5) (Int.toNat x1) 2)) fun σ58 =>
      some σ58)
    else
      pX11_chance_62 σ x1 x2))
  else
    pX11_chance_62 σ x1 x2)
def pX11_chance_0 (σ : St) : Option (St) :=
  Option.bind (pX11_draw σ (σ.1 2)) fun u5 => nm u5.1 fun r5 => nm u5.2 fun σ5 =>
  Option.bind (pX11_draw σ5 3) fun u11 => nm u11.1 fun r11 => nm u11.2 fun σ11 =>
  gd (rg r11) (
  if r11 = 0 then
    Option.bind (pX11_canPut σ11 r5) fun r21 =>
    gd (rg r21) (
    if r21 = 0 then
      pX11_chance_37 σ11 r5 r11
    else
      gd (0 ≤ r5 ∧ r5 < 19) (
      nm (sA σ11 5 (va_up (σ11.2 5) (Int.toNat r5) 1)) fun σ33 =>
      some σ33))
  else
    pX11_chance_37 σ11 r5 r11)
def pX11_chance (σ : St) : Option (St) := pX11_chance_0 σ
def pX11_drift_34 (k18 : St → Int → Int → Option (Int × St)) (σ : St) (x1 : Int) (x3 : Int) : Option (Int × St) :=
  Option.bind (pX11_pass σ) fun σ35 =>
  k18 σ35 x1 (x3 + 1)
def pX11_drift_18 : Nat → St → Int → Int → Option (Int × St)
  | 0, _, _, _ => none
  | n + 1, σ, x1, x3 =>
    gd (rg x3 ∧ rg x1) (
    if x1 ≤ x3 then
      some ((σ.2 5 17), σ)
    else
      gd (rg (σ.1 2)) (
      if (σ.1 2) ≤ 0 then
        pX11_drift_34 ((pX11_drift_18 n)) σ x1 x3
      else
        Option.bind (pX11_chance σ) fun σ31 =>
        pX11_drift_34 ((pX11_drift_18 n)) σ31 x1 x3))
def pX11_drift_0 (σ : St) (x1 : Int) : Option (Int × St) :=
  Option.bind (pX11_minutesRefused σ x1) fun r2 =>
  gd (rg r2) (
  if r2 = 0 then
    Option.bind (pX11_remember σ) fun σ13 =>
    pX11_drift_18 FU σ13 x1 0
  else
    some (r2, σ))
def pX11_drift (σ : St) (x1 : Int) : Option (Int × St) := pX11_drift_0 σ x1
def pX4_loadFrom_a19_0 (σ : St) (x2 : Int) : Option (St) :=
  Option.bind (pX4_isRow_a19 σ x2) fun r2 =>
  gd (rg r2) (
  if r2 = 0 then
    some σ
  else
    gd ((0 : Int) ≤ x2 ∧ (0 : Int) ≤ 0 ∧ (0 : Int) ≤ 7 ∧ (x2 : Int) + 7 ≤ 400 ∧ (0 : Int) + 7 ≤ 7) (
    nm (sA σ 11 (va_cpy (σ.2 13) (σ.2 11) (Int.toNat x2) 0 7)) fun σ18 =>
    gd ((0 : Int) ≤ (x2 + 7) ∧ (0 : Int) ≤ 0 ∧ (0 : Int) ≤ 7 ∧ ((x2 + 7) : Int) + 7 ≤ 400 ∧ (0 : Int) + 7 ≤ 7) (
    nm (sA σ18 12 (va_cpy (σ18.2 13) (σ18.2 12) (Int.toNat (x2 + 7)) 0 7)) fun σ33 =>
    gd (0 ≤ (x2 + 14) ∧ (x2 + 14) < 400) (
    nm (sI σ33 16 (σ33.2 13 (Int.toNat (x2 + 14)))) fun σ45 =>
    gd (0 ≤ ((x2 + 14) + 1) ∧ ((x2 + 14) + 1) < 400) (
    nm (sI σ45 17 (σ45.2 13 (Int.toNat ((x2 + 14) + 1)))) fun σ54 =>
    gd (0 ≤ ((x2 + 14) + 2) ∧ ((x2 + 14) + 2) < 400) (
    nm (sI σ54 18 (σ54.2 13 (Int.toNat ((x2 + 14) + 2)))) fun σ63 =>
    gd (0 ≤ ((x2 + 14) + 3) ∧ ((x2 + 14) + 3) < 400) (
    nm (sI σ63 19 (σ63.2 13 (Int.toNat ((x2 + 14) + 3)))) fun σ72 =>
    gd (0 ≤ ((x2 + 14) + 4) ∧ ((x2 + 14) + 4) < 400) (
    nm (sI σ72 20 (σ72.2 13 (Int.toNat ((x2 + 14) + 4)))) fun σ81 =>
    gd (0 ≤ ((x2 + 14) + 5) ∧ ((x2 + 14) + 5) < 400) (
    nm (sI σ81 21 (σ81.2 13 (Int.toNat ((x2 + 14) + 5)))) fun σ90 =>
    some σ90)))))))))
def pX4_loadFrom_a19 (σ : St) (x2 : Int) : Option (St) := pX4_loadFrom_a19_0 σ x2
def pX5_bringBack_0 (σ : St) : Option (Int × St) :=
  gd (rg (σ.1 23)) (
  if 0 < (σ.1 23) then
    nm (sI σ 23 ((σ.1 23) - 1)) fun σ16 =>
    gd (dv ((σ16.1 22) + (σ16.1 23)) 20) (
    Option.bind (pX4_loadFrom_a19 σ16 ((((σ16.1 22) + (σ16.1 23)) % 20) * 20)) fun σ41 =>
    some (1, σ41))
  else
    some (0, σ))
def pX5_bringBack (σ : St) : Option (Int × St) := pX5_bringBack_0 σ
def pX10_undo_0 (σ : St) : Option (Int × St) :=
  Option.bind (pX5_bringBack σ) fun u8 => nm u8.1 fun r8 => nm u8.2 fun σ8 =>
  gd (rg r8) (
  if r8 = 0 then
    some ((-1000000003), σ8)
  else
    some ((σ8.1 23), σ8))
def pX10_undo (σ : St) : Option (Int × St) := pX10_undo_0 σ
def pX11_undo_22 : Nat → St → Int → Option (Int × St)
  | 0, _, _ => none
  | n + 1, σ, x1 =>
    gd (rg x1) (
    if 19 ≤ x1 then
      some ((σ.1 12), σ)
    else
      gd (0 ≤ ((19 * (σ.1 12)) + x1) ∧ ((19 * (σ.1 12)) + x1) < 380) (
      gd (0 ≤ x1 ∧ x1 < 19) (
      nm (sA σ 5 (va_up (σ.2 5) (Int.toNat x1) (σ.2 12 (Int.toNat ((19 * (σ.1 12)) + x1))))) fun σ47 =>
      pX11_undo_22 n σ47 (x1 + 1))))
def pX11_undo_0 (σ : St) : Option (Int × St) :=
  gd (rg (σ.1 12)) (
  if (σ.1 12) = 0 then
    some ((-1000000003), σ)
  else
    nm (sI σ 12 ((σ.1 12) - 1)) fun σ17 =>
    pX11_undo_22 FU σ17 0)
def pX11_undo (σ : St) : Option (Int × St) := pX11_undo_0 σ
def pX8_setWish_c1_0 (σ : St) (x1 : Int) (x2 : Int) : Option (St) :=
  Option.bind (pX8_hasEgg_c1 σ x1) fun r2 =>
  gd (rg r2) (
  if r2 = 0 then
    some σ
  else
    gd (0 ≤ x1 ∧ x1 < 7) (
    nm (sA σ 2 (va_up (σ.2 2) (Int.toNat x1) x2)) fun σ14 =>
    some σ14))
def pX8_setWish_c1 (σ : St) (x1 : Int) (x2 : Int) : Option (St) := pX8_setWish_c1_0 σ x1 x2
def pX10_wish_0 (σ : St) (x1 : Int) (x2 : Int) : Option (Int × St) :=
  Option.bind (pX8_hasEgg_c1 σ x1) fun r5 =>
  gd (rg r5) (
  if r5 = 0 then
    some ((-1000000001), σ)
  else
    Option.bind (pX10_isWithin x2 1 (σ.1 4)) fun r23 =>
    gd (rg r23) (
    if r23 = 0 then
      some ((-1000000002), σ)
    else
      Option.bind (pX8_wishOf_c1 σ x1) fun r37 =>
      Option.bind (pX8_setWish_c1 σ x1 x2) fun σ47 =>
      some (r37, σ47)))
def pX10_wish (σ : St) (x1 : Int) (x2 : Int) : Option (Int × St) := pX10_wish_0 σ x1 x2
def pX11_wish_0 (σ : St) (x1 : Int) (x2 : Int) : Option (Int × St) :=
  Option.bind (pX11_isEgg σ x1) fun r2 =>
  gd (rg r2) (
  if r2 = 0 then
    some ((-1000000001), σ)
  else
    gd (rg x2) (
    gd (rg (σ.1 1)) (
    Option.bind (pX11_in x2 1 (σ.1 1)) fun r19 =>
    gd (rg r19) (
    if r19 = 0 then
      some ((-1000000002), σ)
    else
      gd (0 ≤ x1 ∧ x1 < 7) (
      gd (0 ≤ x1 ∧ x1 < 7) (
      nm (sA σ 4 (va_up (σ.2 4) (Int.toNat x1) x2)) fun σ41 =>
      some ((σ.2 4 (Int.toNat x1)), σ41)))))))
def pX11_wish (σ : St) (x1 : Int) (x2 : Int) : Option (Int × St) := pX11_wish_0 σ x1 x2
def pX10_needs_29 (σ : St) : Nat → Int → Int → Int → Option (Int)
  | 0, _, _, _ => none
  | n + 1, x1, x2, x3 =>
    gd (rg x3 ∧ rg (σ.1 4)) (
    if (σ.1 4) < x3 then
      some (-1)
    else
      Option.bind (pX8_reign_c1 σ x1 x3) fun r46 =>
      gd (rg r46 ∧ rg x2) (
      if r46 < x2 then
        pX10_needs_29 σ n x1 x2 (x3 + 1)
      else
        some x3))
def pX10_needs_0 (σ : St) (x1 : Int) (x2 : Int) : Option (Int) :=
  Option.bind (pX8_hasEgg_c1 σ x1) fun r5 =>
  gd (rg r5) (
  if r5 = 0 then
    some (-1000000001)
  else
    Option.bind (pX10_isWithin x2 1 99) fun r18 =>
    gd (rg r18) (
    if r18 = 0 then
      some (-1000000002)
    else
      pX10_needs_29 σ FU x1 x2 0))
def pX10_needs (σ : St) (x1 : Int) (x2 : Int) : Option (Int) := pX10_needs_0 σ x1 x2
def pX11_needs_28 (σ : St) : Nat → Int → Int → Int → Option (Int)
  | 0, _, _, _ => none
  | n + 1, x1, x2, x3 =>
    gd (rg x3 ∧ rg (σ.1 1)) (
    if (σ.1 1) < x3 then
      some (-1)
    else
      Option.bind (pX11_reignBy σ x1 x3) fun r39 =>
      gd (rg r39 ∧ rg x2) (
      if r39 < x2 then
        pX11_needs_28 σ n x1 x2 (x3 + 1)
      else
        some x3))
def pX11_needs_0 (σ : St) (x1 : Int) (x2 : Int) : Option (Int) :=
  Option.bind (pX11_isEgg σ x1) fun r2 =>
  gd (rg r2) (
  if r2 = 0 then
    some (-1000000001)
  else
    gd (rg x2) (
    Option.bind (pX11_in x2 1 99) fun r17 =>
    gd (rg r17) (
    if r17 = 0 then
      some (-1000000002)
    else
      pX11_needs_28 σ FU x1 x2 0)))
def pX11_needs (σ : St) (x1 : Int) (x2 : Int) : Option (Int) := pX11_needs_0 σ x1 x2
def pX0_takeOver_4 : Nat → St → Int → Int → Option (St)
  | 0, _, _, _ => none
  | n + 1, σ, x1, x2 =>
    gd (rg x2) (
    if 3 ≤ x2 then
      gd (rg x1 ∧ rg (σ.1 27)) (
      if (σ.1 27) ≤ x1 then
        some σ
      else
        nm (sI σ 27 x1) fun σ36 =>
        nm (sA σ36 24 (va_cpy (σ36.2 23) (σ36.2 24) 0 0 7)) fun σ51 =>
        some σ51)
    else
      gd (0 ≤ x2 ∧ x2 < 3) (
      gd (rg x1 ∧ rg (σ.2 22 (Int.toNat x2))) (
      pX0_takeOver_4 n σ (max x1 (σ.2 22 (Int.toNat x2))) (x2 + 1))))
def pX0_takeOver_0 (σ : St) : Option (St) :=
  pX0_takeOver_4 FU σ 0 0
def pX0_takeOver (σ : St) : Option (St) := pX0_takeOver_0 σ
def pX0_tryFrom_10 (σ : St) : Option (St) :=
  Option.bind (pX0_takeOver σ) fun σ11 =>
  some σ11
def pX0_tryFrom_104 (k34 : St → Int → Int → Option (St)) (σ : St) (x1 : Int) (x2 : Int) : Option (St) :=
  k34 σ x1 (x2 + 1)
def pX0_tryFrom_34 (fr : St → Int → Option (St)) : Nat → St → Int → Int → Option (St)
  | 0, _, _, _ => none
  | n + 1, σ, x1, x2 =>
    gd (rg x2 ∧ rg (σ.1 26)) (
    if (σ.1 26) ≤ x2 then
      some σ
    else
      gd (rg x2) (
      if 3 ≤ x2 then
        some σ
      else
        gd (0 ≤ x2 ∧ x2 < 3) (
        gd (0 ≤ x1 ∧ x1 < 7) (
        gd (rg ((σ.2 22 (Int.toNat x2)) + (σ.2 21 (Int.toNat x1))) ∧ rg (σ.1 27)) (
        if (σ.1 27) ≤ ((σ.2 22 (Int.toNat x2)) + (σ.2 21 (Int.toNat x1))) then
          pX0_tryFrom_104 ((pX0_tryFrom_34 fr n)) σ x1 x2
        else
          gd (0 ≤ x1 ∧ x1 < 7) (
          gd (0 ≤ x2 ∧ x2 < 3) (
          nm (sA σ 22 (va_up (σ.2 22) (Int.toNat x2) ((σ.2 22 (Int.toNat x2)) + (σ.2 21 (Int.toNat x1))))) fun σ82 =>
          gd (0 ≤ x1 ∧ x1 < 7) (
          nm (sA σ82 23 (va_up (σ82.2 23) (Int.toNat x1) x2)) fun σ89 =>
          Option.bind (fr σ89 (x1 + 1)) fun σ94 =>
          gd (0 ≤ x2 ∧ x2 < 3) (
          nm (sA σ94 22 (va_up (σ94.2 22) (Int.toNat x2) (σ.2 22 (Int.toNat x2)))) fun σ103 =>
          pX0_tryFrom_104 ((pX0_tryFrom_34 fr n)) σ103 x1 x2)))))))))
def pX0_tryFrom_0 (fr : St → Int → Option (St)) (σ : St) (x1 : Int) : Option (St) :=
  gd (rg x1) (
  if x1 < 0 then
    pX0_tryFrom_10 σ
  else
    gd (rg x1) (
    if x1 < 7 then
      gd (0 ≤ x1 ∧ x1 < 7) (
      gd (rg (σ.2 21 (Int.toNat x1))) (
      if (σ.2 21 (Int.toNat x1)) = 0 then
        Option.bind (fr σ (x1 + 1)) fun σ28 =>
        some σ28
      else
        pX0_tryFrom_34 fr FU σ x1 0))
    else
      pX0_tryFrom_10 σ))
def pX0_tryFrom : Nat → St → Int → Option (St)
  | 0, _, _ => none
  | n + 1, σ, x1 => pX0_tryFrom_0 (pX0_tryFrom n) σ x1
def pX0_tryAll_c1_49 (k20 : St → Int → Int → Option (St)) (σ : St) (x2 : Int) (x3 : Int) (t1 : Int) (t2 : Int) : Option (St) :=
  gd (0 ≤ t1 ∧ t1 < 7) (
  nm (sA σ 21 (va_up (σ.2 21) (Int.toNat t1) t2)) fun σ49 =>
  gd (0 ≤ x3 ∧ x3 < 7) (
  nm (sA σ49 23 (va_up (σ49.2 23) (Int.toNat x3) (-1))) fun σ56 =>
  k20 σ56 x2 (x3 + 1)))
def pX0_tryAll_c1_65 : Nat → St → Int → Option (St)
  | 0, _, _ => none
  | n + 1, σ, x3 =>
    gd (rg x3) (
    if 3 ≤ x3 then
      Option.bind (pX0_tryFrom 9 σ 0) fun σ85 =>
      some σ85
    else
      gd (0 ≤ x3 ∧ x3 < 3) (
      nm (sA σ 22 (va_up (σ.2 22) (Int.toNat x3) 0)) fun σ76 =>
      pX0_tryAll_c1_65 n σ76 (x3 + 1)))
def pX0_tryAll_c1_20 : Nat → St → Int → Int → Option (St)
  | 0, _, _, _ => none
  | n + 1, σ, x2, x3 =>
    gd (rg x3) (
    if 7 ≤ x3 then
      pX0_tryAll_c1_65 FU σ 0
    else
      gd (rg (zAnd (zShr x2 x3) 1)) (
      if (zAnd (zShr x2 x3) 1) = 1 then
        Option.bind (pX8_wishOf_c1 σ x3) fun r42 =>
        pX0_tryAll_c1_49 ((pX0_tryAll_c1_20 n)) σ x2 x3 x3 r42
      else
        pX0_tryAll_c1_49 ((pX0_tryAll_c1_20 n)) σ x2 x3 x3 0))
def pX0_tryAll_c1_0 (σ : St) (x2 : Int) : Option (St) :=
  gd (rg (σ.1 2)) (
  nm (sI σ 26 (min (σ.1 2) 3)) fun σ9 =>
  nm (sI σ9 27 1000000) fun σ15 =>
  pX0_tryAll_c1_20 FU σ15 x2 0)
def pX0_tryAll_c1 (σ : St) (x2 : Int) : Option (St) := pX0_tryAll_c1_0 σ x2
def pX0_placeOf_0 (σ : St) (x1 : Int) : Option (Int) :=
  gd (rg x1) (
  if x1 < 0 then
    some (-1)
  else
    gd (rg x1) (
    if 7 ≤ x1 then
      some (-1)
    else
      gd (0 ≤ x1 ∧ x1 < 7) (
      some (σ.2 24 (Int.toNat x1)))))
def pX0_placeOf (σ : St) (x1 : Int) : Option (Int) := pX0_placeOf_0 σ x1
def pX0_fewest_0 (σ : St) : Option (Int) :=
  some (σ.1 27)
def pX0_fewest (σ : St) : Option (Int) := pX0_fewest_0 σ
def pX8_hasEggs_c1_0 (σ : St) (x1 : Int) : Option (Int) :=
  gd (rg x1) (
  if x1 < 0 then
    some 0
  else
    gd (rg (σ.1 5)) (
    gd (rg (zShr x1 (min (σ.1 5) 7))) (
    if (zShr x1 (min (σ.1 5) 7)) = 0 then
      some 1
    else
      some 0)))
def pX8_hasEggs_c1 (σ : St) (x1 : Int) : Option (Int) := pX8_hasEggs_c1_0 σ x1
def pX10_allBoiled_40 (σ : St) (x1 : Int) (x2 : Int) (x3 : Int) : Option (Int × St) :=
  Option.bind (pX8_isLaid_c1 σ) fun r44 =>
  gd (rg r44) (
  if r44 = 0 then
    some ((-1000000003), σ)
  else
    Option.bind (pX0_tryAll_c1 σ x1) fun σ62 =>
    gd (rg x3) (
    if x3 = 0 then
      Option.bind (pX0_placeOf σ62 x2) fun r84 =>
      some (r84, σ62)
    else
      Option.bind (pX0_fewest σ62) fun r73 =>
      some (r73, σ62)))
def pX10_allBoiled_10 (σ : St) (x1 : Int) (x2 : Int) (t0 : Int) : Option (Int × St) :=
  Option.bind (pX8_hasEggs_c1 σ x1) fun r16 =>
  gd (rg r16) (
  if r16 = 0 then
    some ((-1000000001), σ)
  else
    gd (rg t0) (
    if t0 = 0 then
      Option.bind (pX8_hasEgg_c1 σ x2) fun r31 =>
      gd (rg r31) (
      if r31 = 0 then
        some ((-1000000001), σ)
      else
        pX10_allBoiled_40 σ x1 x2 t0)
    else
      pX10_allBoiled_40 σ x1 x2 t0))
def pX10_allBoiled_0 (σ : St) (x1 : Int) (x2 : Int) : Option (Int × St) :=
  gd (rg x2) (
  if x2 = (-1) then
    pX10_allBoiled_10 σ x1 x2 1
  else
    pX10_allBoiled_10 σ x1 x2 0)
def pX10_allBoiled (σ : St) (x1 : Int) (x2 : Int) : Option (Int × St) := pX10_allBoiled_0 σ x1 x2
def pX11_has_0 (x0 : Int) (x1 : Int) : Option (Int) :=
  gd (rg (zAnd (zShr x0 x1) 1)) (
  if (zAnd (zShr x0 x1) 1) = 1 then
    some 1
  else
    some 0)
def pX11_has (x0 : Int) (x1 : Int) : Option (Int) := pX11_has_0 x0 x1
def pX11_placeBy_124 (k36 : St → Int → Int → Int → Int → Option (Int × St)) (σ : St) (x2 : Int) (x3 : Int) (x4 : Int) (x5 : Int) (t1 : Int) (t2 : Int) (t3 : Int) : Option (Int × St) :=
  gd (0 ≤ t1 ∧ t1 < 3) (
  nm (sA σ 15 (va_up (σ.2 15) (Int.toNat t1) (t2 + t3))) fun σ125 =>
  k36 σ125 x2 x3 x4 (x5 + (-1)))
def pX11_placeBy_91 (k36 : St → Int → Int → Int → Int → Option (Int × St)) (σ : St) (x2 : Int) (x3 : Int) (x4 : Int) (x5 : Int) : Option (Int × St) :=
  gd (0 ≤ x5 ∧ x5 < 7) (
  gd (0 ≤ (σ.2 13 (Int.toNat x5)) ∧ (σ.2 13 (Int.toNat x5)) < 3) (
  Option.bind (pX11_has x2 x5) fun r107 =>
  gd (rg r107) (
  if r107 = 0 then
    pX11_placeBy_124 k36 σ x2 x3 x4 x5 (σ.2 13 (Int.toNat x5)) (σ.2 15 (Int.toNat (σ.2 13 (Int.toNat x5)))) 0
  else
    gd (0 ≤ x5 ∧ x5 < 7) (
    pX11_placeBy_124 k36 σ x2 x3 x4 x5 (σ.2 13 (Int.toNat x5)) (σ.2 15 (Int.toNat (σ.2 13 (Int.toNat x5)))) (σ.2 4 (Int.toNat x5))))))
def pX11_placeBy_165 (k135 : St → Int → Int → Option (Int × St)) (σ : St) (x5 : Int) (t0 : Int) : Option (Int × St) :=
  k135 σ t0 (x5 + 1)
def pX11_placeBy_135 : Nat → St → Int → Int → Option (Int × St)
  | 0, _, _, _ => none
  | n + 1, σ, x4, x5 =>
    gd (rg x5) (
    if 3 ≤ x5 then
      some (x4, σ)
    else
      gd (0 ≤ x5 ∧ x5 < 3) (
      gd (rg (σ.2 15 (Int.toNat x5)) ∧ rg x4) (
      if (σ.2 15 (Int.toNat x5)) ≤ x4 then
        pX11_placeBy_165 ((pX11_placeBy_135 n)) σ x5 x4
      else
        gd (0 ≤ x5 ∧ x5 < 3) (
        pX11_placeBy_165 ((pX11_placeBy_135 n)) σ x5 (σ.2 15 (Int.toNat x5))))))
def pX11_placeBy_36 : Nat → St → Int → Int → Int → Int → Option (Int × St)
  | 0, _, _, _, _, _ => none
  | n + 1, σ, x2, x3, x4, x5 =>
    gd (rg x5) (
    if x5 < 0 then
      pX11_placeBy_135 FU σ x4 0
    else
      gd (dv x3 3) (
      gd (0 ≤ x5 ∧ x5 < 7) (
      nm (sA σ 13 (va_up (σ.2 13) (Int.toNat x5) (x3 % 3))) fun σ50 =>
      gd (dv x3 3) (
      gd (0 ≤ x5 ∧ x5 < 7) (
      gd (rg (σ50.2 13 (Int.toNat x5)) ∧ rg (σ50.1 0)) (
      if (σ50.1 0) ≤ (σ50.2 13 (Int.toNat x5)) then
        some (100000, σ50)
      else
        Option.bind (pX11_has x2 x5) fun r72 =>
        gd (rg r72) (
        if r72 = 0 then
          gd (0 ≤ x5 ∧ x5 < 7) (
          gd (rg (σ50.2 13 (Int.toNat x5))) (
          if (σ50.2 13 (Int.toNat x5)) ≤ 0 then
            pX11_placeBy_91 ((pX11_placeBy_36 n)) σ50 x2 (x3 / 3) x4 x5
          else
            some (100000, σ50)))
        else
          pX11_placeBy_91 ((pX11_placeBy_36 n)) σ50 x2 (x3 / 3) x4 x5)))))))
def pX11_placeBy_8 : Nat → St → Int → Int → Int → Int → Option (Int × St)
  | 0, _, _, _, _, _ => none
  | n + 1, σ, x2, x3, x4, x5 =>
    gd (rg x5) (
    if 3 ≤ x5 then
      pX11_placeBy_36 FU σ x2 x3 x4 ((σ.1 2) - 1)
    else
      gd (0 ≤ x5 ∧ x5 < 3) (
      nm (sA σ 15 (va_up (σ.2 15) (Int.toNat x5) 0)) fun σ21 =>
      pX11_placeBy_8 n σ21 x2 x3 x4 (x5 + 1)))
def pX11_placeBy_0 (σ : St) (x1 : Int) (x2 : Int) : Option (Int × St) :=
  pX11_placeBy_8 FU σ x2 x1 0 0
def pX11_placeBy (σ : St) (x1 : Int) (x2 : Int) : Option (Int × St) := pX11_placeBy_0 σ x1 x2
def pX11_allBoiled_133 (k75 : St → Int → Int → Int → Int → Int → Option (Int × St)) (σ : St) (x1 : Int) (x2 : Int) (x3 : Int) (x4 : Int) (x5 : Int) : Option (Int × St) :=
  k75 σ x1 x2 x3 x4 (x5 + 1)
def pX11_allBoiled_104 (k75 : St → Int → Int → Int → Int → Int → Option (Int × St)) : Nat → St → Int → Int → Int → Int → Int → Int → Option (Int × St)
  | 0, _, _, _, _, _, _, _ => none
  | n + 1, σ, x1, x2, x3, x4, x5, x7 =>
    gd (rg x7 ∧ rg (σ.1 2)) (
    if (σ.1 2) ≤ x7 then
      pX11_allBoiled_133 k75 σ x1 x2 x3 x4 x5
    else
      gd (0 ≤ x7 ∧ x7 < 7) (
      gd (0 ≤ x7 ∧ x7 < 7) (
      nm (sA σ 14 (va_up (σ.2 14) (Int.toNat x7) (σ.2 13 (Int.toNat x7)))) fun σ126 =>
      pX11_allBoiled_104 k75 n σ126 x1 x2 x3 x4 x5 (x7 + 1))))
def pX11_allBoiled_75 : Nat → St → Int → Int → Int → Int → Int → Option (Int × St)
  | 0, _, _, _, _, _, _ => none
  | n + 1, σ, x1, x2, x3, x4, x5 =>
    gd (rg x5 ∧ rg x3) (
    if x3 ≤ x5 then
      gd (rg x2) (
      if x2 = (-1) then
        some (x4, σ)
      else
        Option.bind (pX11_has x1 x2) fun r151 =>
        gd (rg r151) (
        if r151 = 0 then
          some ((-1), σ)
        else
          gd (0 ≤ x2 ∧ x2 < 7) (
          some ((σ.2 14 (Int.toNat x2)), σ))))
    else
      Option.bind (pX11_placeBy σ x5 x1) fun u85 => nm u85.1 fun r85 => nm u85.2 fun σ85 =>
      gd (rg r85 ∧ rg x4) (
      if x4 ≤ r85 then
        pX11_allBoiled_133 ((pX11_allBoiled_75 n)) σ85 x1 x2 x3 x4 x5
      else
        pX11_allBoiled_104 ((pX11_allBoiled_75 n)) FU σ85 x1 x2 x3 r85 x5 0))
def pX11_allBoiled_49 : Nat → St → Int → Int → Int → Int → Option (Int × St)
  | 0, _, _, _, _, _ => none
  | n + 1, σ, x1, x2, x3, x4 =>
    gd (rg x4 ∧ rg (σ.1 2)) (
    if (σ.1 2) ≤ x4 then
      pX11_allBoiled_75 FU σ x1 x2 x3 100000 0
    else
      pX11_allBoiled_49 n σ x1 x2 (x3 * 3) (x4 + 1))
def pX11_allBoiled_34 (σ : St) (x1 : Int) (x2 : Int) : Option (Int × St) :=
  gd (rg (σ.1 0)) (
  if (σ.1 0) = 0 then
    some ((-1000000003), σ)
  else
    pX11_allBoiled_49 FU σ x1 x2 1 0)
def pX11_allBoiled_0 (σ : St) (x1 : Int) (x2 : Int) : Option (Int × St) :=
  gd (rg x1) (
  gd (rg ((zShl 1 (σ.1 2)) - 1)) (
  Option.bind (pX11_in x1 0 ((zShl 1 (σ.1 2)) - 1)) fun r12 =>
  gd (rg r12) (
  if r12 = 0 then
    some ((-1000000001), σ)
  else
    gd (rg x2) (
    if x2 = (-1) then
      pX11_allBoiled_34 σ x1 x2
    else
      Option.bind (pX11_isEgg σ x2) fun r25 =>
      gd (rg r25) (
      if r25 = 0 then
        some ((-1000000001), σ)
      else
        pX11_allBoiled_34 σ x1 x2)))))
def pX11_allBoiled (σ : St) (x1 : Int) (x2 : Int) : Option (Int × St) := pX11_allBoiled_0 σ x1 x2
def pX7_weigh_40 (k11 : St → Int → Int → Int → Int → Option (St)) (σ : St) (x2 : Int) (x3 : Int) (x5 : Int) (t0 : Int) (t1 : Int) : Option (St) :=
  k11 σ x2 x3 (t0 + t1) (x5 + 1)
def pX7_weigh_97 (σ : St) (x2 : Int) (x3 : Int) (x4 : Int) : Option (St) :=
  nm (sI σ 28 x3) fun σ99 =>
  nm (sI σ99 29 x4) fun σ105 =>
  nm (sI σ105 30 x2) fun σ110 =>
  some σ110
def pX7_weigh_65 (σ : St) (x2 : Int) (x3 : Int) (x4 : Int) (t0 : Int) : Option (St) :=
  gd (rg t0) (
  if t0 = 0 then
    some σ
  else
    gd (rg x3 ∧ rg (σ.1 28)) (
    if (σ.1 28) < x3 then
      pX7_weigh_97 σ x2 x3 x4
    else
      gd (rg x3 ∧ rg (σ.1 28)) (
      if x3 = (σ.1 28) then
        gd (rg x4 ∧ rg (σ.1 29)) (
        if x4 ≤ (σ.1 29) then
          some σ
        else
          pX7_weigh_97 σ x2 x3 x4)
      else
        some σ)))
def pX7_weigh_11 : Nat → St → Int → Int → Int → Int → Option (St)
  | 0, _, _, _, _, _ => none
  | n + 1, σ, x2, x3, x4, x5 =>
    gd (rg x5) (
    if 7 ≤ x5 then
      gd (rg (2 * x4) ∧ rg (σ.1 18)) (
      if (σ.1 18) < (2 * x4) then
        pX7_weigh_65 σ x2 x3 x4 0
      else
        pX7_weigh_65 σ x2 x3 x4 1)
    else
      gd (rg (zAnd (zShr x2 x5) 1)) (
      if (zAnd (zShr x2 x5) 1) = 1 then
        Option.bind (pX4_reignOf σ x5) fun r33 =>
        pX7_weigh_40 ((pX7_weigh_11 n)) σ x2 x3 x5 x4 r33
      else
        pX7_weigh_40 ((pX7_weigh_11 n)) σ x2 x3 x5 x4 0))
def pX7_weigh_0 (σ : St) (x2 : Int) : Option (St) :=
  Option.bind (pJ6_bitCount_0f7a4 x2) fun r1 =>
  pX7_weigh_11 FU σ x2 r1 0 0
def pX7_weigh (σ : St) (x2 : Int) : Option (St) := pX7_weigh_0 σ x2
def pX7_tryAll_44 (k23 : St → Int → Int → Option (St)) (σ : St) (x2 : Int) (x3 : Int) : Option (St) :=
  k23 σ x2 (x3 + 1)
def pX7_tryAll_23 : Nat → St → Int → Int → Option (St)
  | 0, _, _, _ => none
  | n + 1, σ, x2, x3 =>
    gd (rg x3) (
    if 128 ≤ x3 then
      some σ
    else
      gd (rg (zAnd x3 (zXor x2 (-1)))) (
      if (zAnd x3 (zXor x2 (-1))) = 0 then
        Option.bind (pX7_weigh σ x3) fun σ41 =>
        pX7_tryAll_44 ((pX7_tryAll_23 n)) σ41 x2 x3
      else
        pX7_tryAll_44 ((pX7_tryAll_23 n)) σ x2 x3))
def pX7_tryAll_0 (σ : St) : Option (St) :=
  nm (sI σ 28 0) fun σ2 =>
  nm (sI σ2 29 0) fun σ7 =>
  nm (sI σ7 30 0) fun σ12 =>
  Option.bind (pX4_setThatIs σ12 2) fun r17 =>
  pX7_tryAll_23 FU σ12 r17 1
def pX7_tryAll (σ : St) : Option (St) := pX7_tryAll_0 σ
def pX10_dynasty_0 (σ : St) (x1 : Int) : Option (Int × St) :=
  Option.bind (pX10_isWithin x1 0 2) fun r3 =>
  gd (rg r3) (
  if r3 = 0 then
    some ((-1000000002), σ)
  else
    Option.bind (pX7_tryAll σ) fun σ20 =>
    gd (rg x1) (
    if x1 = 0 then
      some ((σ20.1 28), σ20)
    else if x1 = 1 then
      some ((σ20.1 29), σ20)
    else (
      some ((σ20.1 30), σ20))))
def pX10_dynasty (σ : St) (x1 : Int) : Option (Int × St) := pX10_dynasty_0 σ x1
def pX11_bits_4 : Nat → Int → Int → Int → Option (Int)
  | 0, _, _, _ => none
  | n + 1, x0, x1, x2 =>
    gd (rg x2) (
    if 7 ≤ x2 then
      some x1
    else
      pX11_bits_4 n x0 (x1 + (zAnd (zShr x0 x2) 1)) (x2 + 1))
def pX11_bits_0 (x0 : Int) : Option (Int) :=
  pX11_bits_4 FU x0 0 0
def pX11_bits (x0 : Int) : Option (Int) := pX11_bits_0 x0
def pX11_minutesOf_30 (k4 : Int → Int → Int → Option (Int)) (σ : St) (x1 : Int) (x3 : Int) (t0 : Int) (t1 : Int) : Option (Int) :=
  k4 x1 (t0 + t1) (x3 + 1)
def pX11_minutesOf_4 (σ : St) : Nat → Int → Int → Int → Option (Int)
  | 0, _, _, _ => none
  | n + 1, x1, x2, x3 =>
    gd (rg x3 ∧ rg (σ.1 2)) (
    if (σ.1 2) ≤ x3 then
      some x2
    else
      Option.bind (pX11_has x1 x3) fun r15 =>
      gd (rg r15) (
      if r15 = 0 then
        pX11_minutesOf_30 ((pX11_minutesOf_4 σ n)) σ x1 x3 x2 0
      else
        Option.bind (pX11_reign σ x3) fun r23 =>
        pX11_minutesOf_30 ((pX11_minutesOf_4 σ n)) σ x1 x3 x2 r23))
def pX11_minutesOf_0 (σ : St) (x1 : Int) : Option (Int) :=
  pX11_minutesOf_4 σ FU x1 0 0
def pX11_minutesOf (σ : St) (x1 : Int) : Option (Int) := pX11_minutesOf_0 σ x1
def pX11_dynastySet_121 (k10 : Int → Int → Int → Option (Int)) (σ : St) (x1 : Int) (x3 : Int) (t0 : Int) : Option (Int) :=
  k10 x1 t0 (x3 + 1)
def pX11_dynastySet_116 (k10 : Int → Int → Int → Option (Int)) (σ : St) (x1 : Int) (x3 : Int) : Option (Int) :=
  pX11_dynastySet_121 k10 σ x1 x3 x3
def pX11_dynastySet_120 (k10 : Int → Int → Int → Option (Int)) (σ : St) (x1 : Int) (x2 : Int) (x3 : Int) : Option (Int) :=
  pX11_dynastySet_121 k10 σ x1 x3 x2
def pX11_dynastySet_99 (k10 : Int → Int → Int → Option (Int)) (σ : St) (x1 : Int) (x2 : Int) (x3 : Int) (x4 : Int) (x5 : Int) (t0 : Int) : Option (Int) :=
  gd (rg x4) (
  if x4 = 0 then
    pX11_dynastySet_120 k10 σ x1 x2 x3
  else
    gd (rg x5) (
    if x5 = 0 then
      gd (rg t0) (
      if t0 = 0 then
        pX11_dynastySet_120 k10 σ x1 x2 x3
      else
        pX11_dynastySet_116 k10 σ x1 x3)
    else
      pX11_dynastySet_116 k10 σ x1 x3))
def pX11_dynastySet_98 (k10 : Int → Int → Int → Option (Int)) (σ : St) (x1 : Int) (x2 : Int) (x3 : Int) (x4 : Int) (x5 : Int) : Option (Int) :=
  pX11_dynastySet_99 k10 σ x1 x2 x3 x4 x5 0
def pX11_dynastySet_68 (k10 : Int → Int → Int → Option (Int)) (σ : St) (x1 : Int) (x2 : Int) (x3 : Int) (x4 : Int) (t0 : Int) : Option (Int) :=
  Option.bind (pX11_bits x3) fun r71 =>
  Option.bind (pX11_bits x2) fun r75 =>
  gd (rg r71 ∧ rg r75) (
  if r71 = r75 then
    Option.bind (pX11_minutesOf σ x3) fun r83 =>
    Option.bind (pX11_minutesOf σ x2) fun r88 =>
    gd (rg r83 ∧ rg r88) (
    if r83 ≤ r88 then
      pX11_dynastySet_98 k10 σ x1 x2 x3 x4 t0
    else
      pX11_dynastySet_99 k10 σ x1 x2 x3 x4 t0 1)
  else
    pX11_dynastySet_98 k10 σ x1 x2 x3 x4 t0)
def pX11_dynastySet_50 (k10 : Int → Int → Int → Option (Int)) (σ : St) (x1 : Int) (x2 : Int) (x3 : Int) (t0 : Int) : Option (Int) :=
  Option.bind (pX11_bits x3) fun r53 =>
  Option.bind (pX11_bits x2) fun r57 =>
  gd (rg r53 ∧ rg r57) (
  if r53 ≤ r57 then
    pX11_dynastySet_68 k10 σ x1 x2 x3 t0 0
  else
    pX11_dynastySet_68 k10 σ x1 x2 x3 t0 1)
def pX11_dynastySet_49 (k10 : Int → Int → Int → Option (Int)) (σ : St) (x1 : Int) (x2 : Int) (x3 : Int) : Option (Int) :=
  pX11_dynastySet_50 k10 σ x1 x2 x3 0
def pX11_dynastySet_10 (σ : St) : Nat → Int → Int → Int → Option (Int)
  | 0, _, _, _ => none
  | n + 1, x1, x2, x3 =>
    gd (rg x3 ∧ rg (zShl 1 (σ.1 2))) (
    if (zShl 1 (σ.1 2)) ≤ x3 then
      some x2
    else
      gd (rg (zAnd x3 (zXor x1 (-1)))) (
      if (zAnd x3 (zXor x1 (-1))) = 0 then
        Option.bind (pX11_minutesOf σ x3) fun r31 =>
        gd (rg (2 * r31) ∧ rg (σ.2 5 14)) (
        if (σ.2 5 14) < (2 * r31) then
          pX11_dynastySet_49 ((pX11_dynastySet_10 σ n)) σ x1 x2 x3
        else
          pX11_dynastySet_50 ((pX11_dynastySet_10 σ n)) σ x1 x2 x3 1)
      else
        pX11_dynastySet_49 ((pX11_dynastySet_10 σ n)) σ x1 x2 x3))
def pX11_dynastySet_0 (σ : St) : Option (Int) :=
  Option.bind (pX11_allThat σ 2) fun r2 =>
  pX11_dynastySet_10 σ FU r2 0 0
def pX11_dynastySet (σ : St) : Option (Int) := pX11_dynastySet_0 σ
def pX11_dynasty_0 (σ : St) (x1 : Int) : Option (Int) :=
  gd (rg x1) (
  Option.bind (pX11_in x1 0 2) fun r6 =>
  gd (rg r6) (
  if r6 = 0 then
    some (-1000000002)
  else
    Option.bind (pX11_dynastySet σ) fun r16 =>
    gd (rg x1) (
    if x1 = 0 then
      Option.bind (pX11_bits r16) fun r25 =>
      some r25
    else
      gd (rg x1) (
      if x1 = 1 then
        Option.bind (pX11_minutesOf σ r16) fun r38 =>
        some r38
      else
        some r16))))
def pX11_dynasty (σ : St) (x1 : Int) : Option (Int) := pX11_dynasty_0 σ x1
def pX6_liking_c1_65 (k5 : Int → Int → Int → Option (Int)) (σ : St) (x2 : Int) (x4 : Int) (t0 : Int) (t1 : Int) : Option (Int) :=
  k5 x2 (zOr t0 t1) (x4 + 1)
def pX6_liking_c1_49 (k5 : Int → Int → Int → Option (Int)) (σ : St) (x2 : Int) (x3 : Int) (x4 : Int) (t0 : Int) : Option (Int) :=
  gd (rg t0) (
  if t0 = 0 then
    pX6_liking_c1_65 k5 σ x2 x4 x3 0
  else
    pX6_liking_c1_65 k5 σ x2 x4 x3 (zShl 1 x4))
def pX6_liking_c1_48 (k5 : Int → Int → Int → Option (Int)) (σ : St) (x2 : Int) (x3 : Int) (x4 : Int) : Option (Int) :=
  pX6_liking_c1_49 k5 σ x2 x3 x4 0
def pX6_liking_c1_5 (σ : St) : Nat → Int → Int → Int → Option (Int)
  | 0, _, _, _ => none
  | n + 1, x2, x3, x4 =>
    gd (rg x4) (
    if 7 ≤ x4 then
      some x3
    else
      Option.bind (pX4_stateOf σ x4) fun r15 =>
      gd (rg r15) (
      if r15 = 2 then
        Option.bind (pX4_hardnessOf σ x4) fun r25 =>
        Option.bind (pX8_softestFor_c1 σ x2) fun r30 =>
        Option.bind (pX8_hardestFor_c1 σ x2) fun r35 =>
        Option.bind (pX10_isWithin r25 r30 r35) fun r38 =>
        gd (rg r38) (
        if r38 = 0 then
          pX6_liking_c1_48 ((pX6_liking_c1_5 σ n)) σ x2 x3 x4
        else
          pX6_liking_c1_49 ((pX6_liking_c1_5 σ n)) σ x2 x3 x4 1)
      else
        pX6_liking_c1_48 ((pX6_liking_c1_5 σ n)) σ x2 x3 x4))
def pX6_liking_c1_0 (σ : St) (x2 : Int) : Option (Int) :=
  pX6_liking_c1_5 σ FU x2 0 0
def pX6_liking_c1 (σ : St) (x2 : Int) : Option (Int) := pX6_liking_c1_0 σ x2
def pX6_ask_c1_30 (k2 : St → Int → Option (St)) (σ : St) (x3 : Int) (t1 : Int) (t2 : Int) : Option (St) :=
  gd (0 ≤ t1 ∧ t1 < 5) (
  nm (sA σ 25 (va_up (σ.2 25) (Int.toNat t1) t2)) fun σ30 =>
  k2 σ30 (x3 + 1))
def pX6_ask_c1_2 : Nat → St → Int → Option (St)
  | 0, _, _ => none
  | n + 1, σ, x3 =>
    gd (rg x3) (
    if 5 ≤ x3 then
      some σ
    else
      Option.bind (pX8_hasEater_c1 σ x3) fun r14 =>
      gd (rg r14) (
      if r14 = 0 then
        pX6_ask_c1_30 ((pX6_ask_c1_2 n)) σ x3 x3 0
      else
        Option.bind (pX6_liking_c1 σ x3) fun r23 =>
        pX6_ask_c1_30 ((pX6_ask_c1_2 n)) σ x3 x3 r23))
def pX6_ask_c1_0 (σ : St) : Option (St) :=
  pX6_ask_c1_2 FU σ 0
def pX6_ask_c1 (σ : St) : Option (St) := pX6_ask_c1_0 σ
def pX6_mostPairs_a37_90 (k44 : Int → Int → Int → Int → Int → Int → Option (Int)) (σ : St) (x1 : Int) (x2 : Int) (x3 : Int) (x4 : Int) (x5 : Int) (x6 : Int) : Option (Int) :=
  k44 x1 x2 x3 x4 x5 (x6 + 1)
def pX6_mostPairs_a37_44 (fr : St → Int → Int → Option (Int)) (σ : St) : Nat → Int → Int → Int → Int → Int → Int → Option (Int)
  | 0, _, _, _, _, _, _ => none
  | n + 1, x1, x2, x3, x4, x5, x6 =>
    gd (rg x6) (
    if 7 ≤ x6 then
      some x3
    else
      gd (rg x3 ∧ rg x5) (
      if x5 ≤ x3 then
        some x3
      else
        gd (rg (zAnd (zShr x4 x6) 1)) (
        if (zAnd (zShr x4 x6) 1) = 1 then
          Option.bind (fr σ (x1 + 1) (zAnd x2 (zXor (zShl 1 x6) (-1)))) fun r82 =>
          gd (rg x3 ∧ rg (1 + r82)) (
          pX6_mostPairs_a37_90 ((pX6_mostPairs_a37_44 fr σ n)) σ x1 x2 (max x3 (1 + r82)) x4 x5 x6)
        else
          pX6_mostPairs_a37_90 ((pX6_mostPairs_a37_44 fr σ n)) σ x1 x2 x3 x4 x5 x6)))
def pX6_mostPairs_a37_0 (fr : St → Int → Int → Option (Int)) (σ : St) (x1 : Int) (x2 : Int) : Option (Int) :=
  gd (rg x1) (
  if x1 < 0 then
    some 0
  else
    gd (rg x1) (
    if x1 < 5 then
      Option.bind (fr σ (x1 + 1) x2) fun r17 =>
      gd (0 ≤ x1 ∧ x1 < 5) (
      Option.bind (pJ6_bitCount_0f7a4 x2) fun r33 =>
      gd (rg (5 - x1) ∧ rg r33) (
      pX6_mostPairs_a37_44 fr σ FU x1 x2 r17 (zAnd (σ.2 25 (Int.toNat x1)) x2) (min (5 - x1) r33) 0))
    else
      some 0))
def pX6_mostPairs_a37 : Nat → St → Int → Int → Option (Int)
  | 0, _, _, _ => none
  | n + 1, σ, x1, x2 => pX6_mostPairs_a37_0 (pX6_mostPairs_a37 n) σ x1 x2
def pX6_firstEgg_83 (k26 : Int → Int → Int → Int → Int → Option (Int)) (σ : St) (x1 : Int) (x2 : Int) (x3 : Int) (x4 : Int) (x5 : Int) : Option (Int) :=
  k26 x1 x2 x3 x4 (x5 + 1)
def pX6_firstEgg_49 (k26 : Int → Int → Int → Int → Int → Option (Int)) (σ : St) (x1 : Int) (x2 : Int) (x3 : Int) (x4 : Int) (x5 : Int) (t0 : Int) : Option (Int) :=
  gd (rg t0) (
  if t0 = 0 then
    pX6_firstEgg_83 k26 σ x1 x2 x3 x4 x5
  else
    Option.bind (pX6_mostPairs_a37 7 σ (x1 + 1) (zAnd x2 (zXor (zShl 1 x5) (-1)))) fun r72 =>
    gd (rg (1 + r72) ∧ rg x3) (
    if (1 + r72) = x3 then
      some x5
    else
      pX6_firstEgg_83 k26 σ x1 x2 x3 x4 x5))
def pX6_firstEgg_26 (σ : St) : Nat → Int → Int → Int → Int → Int → Option (Int)
  | 0, _, _, _, _, _ => none
  | n + 1, x1, x2, x3, x4, x5 =>
    gd (rg x5) (
    if 7 ≤ x5 then
      some (-1)
    else
      gd (rg (zAnd (zShr x4 x5) 1)) (
      if (zAnd (zShr x4 x5) 1) = 1 then
        pX6_firstEgg_49 ((pX6_firstEgg_26 σ n)) σ x1 x2 x3 x4 x5 1
      else
        pX6_firstEgg_49 ((pX6_firstEgg_26 σ n)) σ x1 x2 x3 x4 x5 0))
def pX6_firstEgg_21 (σ : St) (x1 : Int) (x2 : Int) (x3 : Int) (t0 : Int) : Option (Int) :=
  pX6_firstEgg_26 σ FU x1 x2 x3 t0 0
def pX6_firstEgg_20 (σ : St) (x1 : Int) (x2 : Int) (x3 : Int) : Option (Int) :=
  pX6_firstEgg_21 σ x1 x2 x3 0
def pX6_firstEgg_0 (σ : St) (x1 : Int) (x2 : Int) (x3 : Int) : Option (Int) :=
  gd (rg x1) (
  if x1 < 0 then
    pX6_firstEgg_20 σ x1 x2 x3
  else
    gd (rg x1) (
    if 5 ≤ x1 then
      pX6_firstEgg_20 σ x1 x2 x3
    else
      gd (0 ≤ x1 ∧ x1 < 5) (
      pX6_firstEgg_21 σ x1 x2 x3 (zAnd (σ.2 25 (Int.toNat x1)) x2))))
def pX6_firstEgg (σ : St) (x1 : Int) (x2 : Int) (x3 : Int) : Option (Int) := pX6_firstEgg_0 σ x1 x2 x3
def pX6_most_0 (σ : St) : Option (Int) :=
  Option.bind (pX6_mostPairs_a37 7 σ 0 127) fun r7 =>
  some r7
def pX6_most (σ : St) : Option (Int) := pX6_most_0 σ
def pX6_eggFor_54 (k14 : Int → Int → Int → Int → Int → Option (Int)) (σ : St) (x1 : Int) (x2 : Int) (x3 : Int) (x4 : Int) (x5 : Int) : Option (Int) :=
  k14 x1 x2 x3 x4 (x5 + 1)
def pX6_eggFor_14 (σ : St) : Nat → Int → Int → Int → Int → Int → Option (Int)
  | 0, _, _, _, _, _ => none
  | n + 1, x1, x2, x3, x4, x5 =>
    gd (rg x5 ∧ rg x1) (
    if x1 < x5 then
      some x4
    else
      gd (rg x5) (
      if 5 ≤ x5 then
        some x4
      else
        Option.bind (pX6_firstEgg σ x5 x2 x3) fun r31 =>
        gd (rg r31) (
        if r31 = (-1) then
          pX6_eggFor_54 ((pX6_eggFor_14 σ n)) σ x1 x2 x3 r31 x5
        else
          pX6_eggFor_54 ((pX6_eggFor_14 σ n)) σ x1 (zAnd x2 (zXor (zShl 1 r31) (-1))) (x3 + (-1)) r31 x5)))
def pX6_eggFor_0 (σ : St) (x1 : Int) : Option (Int) :=
  Option.bind (pX6_most σ) fun r4 =>
  pX6_eggFor_14 σ FU x1 127 r4 (-1) 0
def pX6_eggFor (σ : St) (x1 : Int) : Option (Int) := pX6_eggFor_0 σ x1
def pX10_liked_29 (σ : St) (x1 : Int) (x2 : Int) : Option (Int × St) :=
  Option.bind (pX6_ask_c1 σ) fun σ41 =>
  gd (rg x2) (
  if x2 = 0 then
    Option.bind (pX6_eggFor σ41 x1) fun r63 =>
    some (r63, σ41)
  else
    Option.bind (pX6_most σ41) fun r52 =>
    some (r52, σ41))
def pX10_liked_10 (σ : St) (x1 : Int) (t0 : Int) : Option (Int × St) :=
  gd (rg t0) (
  if t0 = 0 then
    Option.bind (pX8_hasEater_c1 σ x1) fun r20 =>
    gd (rg r20) (
    if r20 = 0 then
      some ((-1000000001), σ)
    else
      pX10_liked_29 σ x1 t0)
  else
    pX10_liked_29 σ x1 t0)
def pX10_liked_0 (σ : St) (x1 : Int) : Option (Int × St) :=
  gd (rg x1) (
  if x1 = (-1) then
    pX10_liked_10 σ x1 1
  else
    pX10_liked_10 σ x1 0)
def pX10_liked (σ : St) (x1 : Int) : Option (Int × St) := pX10_liked_0 σ x1
def pX11_likes_0 (σ : St) (x1 : Int) (x2 : Int) : Option (Int) :=
  gd (rg x2 ∧ rg (σ.1 2)) (
  if (σ.1 2) ≤ x2 then
    some 0
  else
    gd (0 ≤ x2 ∧ x2 < 19) (
    gd (rg (σ.2 5 (Int.toNat x2))) (
    if (σ.2 5 (Int.toNat x2)) = 2 then
      Option.bind (pX11_hard σ x2) fun r20 =>
      gd (rg r20) (
      gd (0 ≤ x1 ∧ x1 < 5) (
      gd (rg (σ.2 2 (Int.toNat x1))) (
      gd (0 ≤ x1 ∧ x1 < 5) (
      gd (rg (σ.2 3 (Int.toNat x1))) (
      Option.bind (pX11_in r20 (σ.2 2 (Int.toNat x1)) (σ.2 3 (Int.toNat x1))) fun r38 =>
      gd (rg r38) (
      if r38 = 0 then
        some 0
      else
        some 1))))))
    else
      some 0)))
def pX11_likes (σ : St) (x1 : Int) (x2 : Int) : Option (Int) := pX11_likes_0 σ x1 x2
def pX11_giveBy_95 (k15 : St → Int → Int → Int → Int → Option (Int × St)) (σ : St) (x2 : Int) (x3 : Int) (x4 : Int) (x5 : Int) : Option (Int × St) :=
  k15 σ x2 x3 x4 (x5 + (-1))
def pX11_giveBy_15 : Nat → St → Int → Int → Int → Int → Option (Int × St)
  | 0, _, _, _, _, _ => none
  | n + 1, σ, x2, x3, x4, x5 =>
    gd (rg x5) (
    if x5 < 0 then
      some (x4, σ)
    else
      gd (dv x2 8) (
      gd (0 ≤ x5 ∧ x5 < 5) (
      nm (sA σ 16 (va_up (σ.2 16) (Int.toNat x5) (x2 % 8))) fun σ30 =>
      gd (dv x2 8) (
      gd (0 ≤ x5 ∧ x5 < 5) (
      gd (rg (σ30.2 16 (Int.toNat x5))) (
      if 7 ≤ (σ30.2 16 (Int.toNat x5)) then
        pX11_giveBy_95 ((pX11_giveBy_15 n)) σ30 (x2 / 8) x3 x4 x5
      else
        gd (0 ≤ x5 ∧ x5 < 5) (
        Option.bind (pX11_likes σ30 x5 (σ30.2 16 (Int.toNat x5))) fun r58 =>
        gd (rg r58) (
        if r58 = 0 then
          some ((-1), σ30)
        else
          gd (0 ≤ x5 ∧ x5 < 5) (
          Option.bind (pX11_has x3 (σ30.2 16 (Int.toNat x5))) fun r72 =>
          gd (rg r72) (
          if r72 = 0 then
            gd (0 ≤ x5 ∧ x5 < 5) (
            pX11_giveBy_95 ((pX11_giveBy_15 n)) σ30 (x2 / 8) (zOr x3 (zShl 1 (σ30.2 16 (Int.toNat x5)))) (x4 + 1) x5)
          else
            some ((-1), σ30)))))))))))
def pX11_giveBy_0 (σ : St) (x1 : Int) : Option (Int × St) :=
  pX11_giveBy_15 FU σ x1 0 0 ((σ.1 3) - 1)
def pX11_giveBy (σ : St) (x1 : Int) : Option (Int × St) := pX11_giveBy_0 σ x1
def pX11_liked_99 (k44 : St → Int → Int → Int → Int → Option (Int × St)) (σ : St) (x1 : Int) (x2 : Int) (x3 : Int) (x4 : Int) : Option (Int × St) :=
  k44 σ x1 x2 x3 (x4 + 1)
def pX11_liked_70 (k44 : St → Int → Int → Int → Int → Option (Int × St)) : Nat → St → Int → Int → Int → Int → Int → Option (Int × St)
  | 0, _, _, _, _, _, _ => none
  | n + 1, σ, x1, x2, x3, x4, x6 =>
    gd (rg x6 ∧ rg (σ.1 3)) (
    if (σ.1 3) ≤ x6 then
      pX11_liked_99 k44 σ x1 x2 x3 x4
    else
      gd (0 ≤ x6 ∧ x6 < 5) (
      gd (0 ≤ x6 ∧ x6 < 5) (
      nm (sA σ 17 (va_up (σ.2 17) (Int.toNat x6) (σ.2 16 (Int.toNat x6)))) fun σ92 =>
      pX11_liked_70 k44 n σ92 x1 x2 x3 x4 (x6 + 1))))
def pX11_liked_44 : Nat → St → Int → Int → Int → Int → Option (Int × St)
  | 0, _, _, _, _, _ => none
  | n + 1, σ, x1, x2, x3, x4 =>
    gd (rg x4 ∧ rg x2) (
    if x2 ≤ x4 then
      gd (rg x1) (
      if x1 = (-1) then
        some (x3, σ)
      else
        gd (0 ≤ x1 ∧ x1 < 5) (
        gd (rg (σ.2 17 (Int.toNat x1))) (
        if (σ.2 17 (Int.toNat x1)) = 7 then
          some ((-1), σ)
        else
          gd (0 ≤ x1 ∧ x1 < 5) (
          some ((σ.2 17 (Int.toNat x1)), σ)))))
    else
      Option.bind (pX11_giveBy σ x4) fun u53 => nm u53.1 fun r53 => nm u53.2 fun σ53 =>
      gd (rg r53 ∧ rg x3) (
      if r53 ≤ x3 then
        pX11_liked_99 ((pX11_liked_44 n)) σ53 x1 x2 x3 x4
      else
        pX11_liked_70 ((pX11_liked_44 n)) FU σ53 x1 x2 r53 x4 0))
def pX11_liked_20 : Nat → St → Int → Int → Int → Option (Int × St)
  | 0, _, _, _, _ => none
  | n + 1, σ, x1, x2, x3 =>
    gd (rg x3 ∧ rg (σ.1 3)) (
    if (σ.1 3) ≤ x3 then
      pX11_liked_44 FU σ x1 x2 (-1) 0
    else
      pX11_liked_20 n σ x1 (x2 * 8) (x3 + 1))
def pX11_liked_16 (σ : St) (x1 : Int) : Option (Int × St) :=
  pX11_liked_20 FU σ x1 1 0
def pX11_liked_0 (σ : St) (x1 : Int) : Option (Int × St) :=
  gd (rg x1) (
  if x1 = (-1) then
    pX11_liked_16 σ x1
  else
    Option.bind (pX11_isEater σ x1) fun r7 =>
    gd (rg r7) (
    if r7 = 0 then
      some ((-1000000001), σ)
    else
      pX11_liked_16 σ x1))
def pX11_liked (σ : St) (x1 : Int) : Option (Int × St) := pX11_liked_0 σ x1
def pX10_goose_67 (σ : St) (t0 : Int) (t1 : Int) : Option (Int) :=
  some (t0 + t1)
def pX10_goose_0 (σ : St) (x1 : Int) (x2 : Int) : Option (Int) :=
  Option.bind (pX8_hasEater_c1 σ x2) fun r5 =>
  gd (rg r5) (
  if r5 = 0 then
    some (-1000000001)
  else
    gd (rg (σ.1 6)) (
    if 0 < (σ.1 6) then
      Option.bind (pX10_isWithin x1 0 999) fun r29 =>
      gd (rg r29) (
      if r29 = 0 then
        some (-1000000002)
      else
        gd (dv x1 (σ.1 6)) (
        gd (dv x1 (σ.1 6)) (
        gd (rg x2 ∧ rg (x1 % (σ.1 6))) (
        if (x1 % (σ.1 6)) ≤ x2 then
          pX10_goose_67 σ (x1 / (σ.1 6)) 0
        else
          pX10_goose_67 σ (x1 / (σ.1 6)) 1))))
    else
      some (-1000000001)))
def pX10_goose (σ : St) (x1 : Int) (x2 : Int) : Option (Int) := pX10_goose_0 σ x1 x2
def pX11_goose_44 (σ : St) (t0 : Int) (t1 : Int) : Option (Int) :=
  some (t0 + t1)
def pX11_goose_0 (σ : St) (x1 : Int) (x2 : Int) : Option (Int) :=
  Option.bind (pX11_isEater σ x2) fun r2 =>
  gd (rg r2) (
  if r2 = 0 then
    some (-1000000001)
  else
    gd (rg x1) (
    Option.bind (pX11_in x1 0 999) fun r17 =>
    gd (rg r17) (
    if r17 = 0 then
      some (-1000000002)
    else
      gd (dv x1 (σ.1 3)) (
      gd (dv x1 (σ.1 3)) (
      gd (rg x2 ∧ rg (x1 % (σ.1 3))) (
      if (x1 % (σ.1 3)) ≤ x2 then
        pX11_goose_44 σ (x1 / (σ.1 3)) 0
      else
        pX11_goose_44 σ (x1 / (σ.1 3)) 1))))))
def pX11_goose (σ : St) (x1 : Int) (x2 : Int) : Option (Int) := pX11_goose_0 σ x1 x2
def pX10_whole_30 (σ : St) : Nat → Int → Int → Int → Int → Option (Int)
  | 0, _, _, _, _ => none
  | n + 1, x1, x2, y3, x5 =>
    gd (rg x5 ∧ rg x1) (
    if x1 ≤ x5 then
      some y3
    else
      gd (rg (100 - x2)) (
      gd (dvL (y3 * (100 - x2)) 100) (
      pX10_whole_30 σ n x1 x2 ((y3 * (100 - x2)) / 100) (x5 + 1))))
def pX10_whole_0 (σ : St) (x1 : Int) (x2 : Int) : Option (Int) :=
  Option.bind (pX10_isWithin x1 0 60) fun r4 =>
  gd (rg r4) (
  if r4 = 0 then
    some (-1000000002)
  else
    Option.bind (pX10_isWithin x2 0 100) fun r14 =>
    gd (rg r14) (
    if r14 = 0 then
      some (-1000000002)
    else
      pX10_whole_30 σ FU x1 x2 1000000000 0))
def pX10_whole (σ : St) (x1 : Int) (x2 : Int) : Option (Int) := pX10_whole_0 σ x1 x2
def pX11_whole_34 (σ : St) : Nat → Int → Int → Int → Int → Option (Int)
  | 0, _, _, _, _ => none
  | n + 1, x1, x2, y3, x5 =>
    gd (rg x5 ∧ rg x1) (
    if x1 ≤ x5 then
      some y3
    else
      gd (rg (100 - x2)) (
      gd (dvL (y3 * (100 - x2)) 100) (
      pX11_whole_34 σ n x1 x2 ((y3 * (100 - x2)) / 100) (x5 + 1))))
def pX11_whole_0 (σ : St) (x1 : Int) (x2 : Int) : Option (Int) :=
  gd (rg x1) (
  Option.bind (pX11_in x1 0 60) fun r6 =>
  gd (rg r6) (
  if r6 = 0 then
    some (-1000000002)
  else
    gd (rg x2) (
    Option.bind (pX11_in x2 0 100) fun r18 =>
    gd (rg r18) (
    if r18 = 0 then
      some (-1000000002)
    else
      pX11_whole_34 σ FU x1 x2 1000000000 0))))
def pX11_whole (σ : St) (x1 : Int) (x2 : Int) : Option (Int) := pX11_whole_0 σ x1 x2
def pX2_add_0 (σ : St) (x1 : Int) (x2 : Int) : Option (Int × St) :=
  gd (rg (σ.1 24)) (
  if (σ.1 24) < 0 then
    some (0, σ)
  else
    gd (rg (σ.1 24)) (
    if (σ.1 24) < 6 then
      gd (0 ≤ (σ.1 24) ∧ (σ.1 24) < 6) (
      nm (sA σ 17 (va_up (σ.2 17) (Int.toNat (σ.1 24)) x1)) fun σ27 =>
      gd (0 ≤ (σ27.1 24) ∧ (σ27.1 24) < 6) (
      nm (sA σ27 18 (va_up (σ27.2 18) (Int.toNat (σ27.1 24)) x2)) fun σ37 =>
      nm (sI σ37 24 ((σ37.1 24) + 1)) fun σ45 =>
      some (1, σ45)))
    else
      some (0, σ)))
def pX2_add (σ : St) (x1 : Int) (x2 : Int) : Option (Int × St) := pX2_add_0 σ x1 x2
def pX10_see_0 (σ : St) (x1 : Int) (x2 : Int) : Option (Int × St) :=
  Option.bind (pX10_isWithin x1 1 9) fun r4 =>
  gd (rg r4) (
  if r4 = 0 then
    some ((-1000000002), σ)
  else
    Option.bind (pX10_isWithin x2 0 30) fun r14 =>
    gd (rg r14) (
    if r14 = 0 then
      some ((-1000000002), σ)
    else
      Option.bind (pX2_add σ x1 x2) fun u29 => nm u29.1 fun r29 => nm u29.2 fun σ29 =>
      gd (rg r29) (
      if r29 = 0 then
        some ((-1000000004), σ29)
      else
        some ((σ29.1 24), σ29))))
def pX10_see (σ : St) (x1 : Int) (x2 : Int) : Option (Int × St) := pX10_see_0 σ x1 x2
def pX11_see_0 (σ : St) (x1 : Int) (x2 : Int) : Option (Int × St) :=
  gd (rg x1) (
  Option.bind (pX11_in x1 1 9) fun r6 =>
  gd (rg r6) (
  if r6 = 0 then
    some ((-1000000002), σ)
  else
    gd (rg x2) (
    Option.bind (pX11_in x2 0 30) fun r18 =>
    gd (rg r18) (
    if r18 = 0 then
      some ((-1000000002), σ)
    else
      gd (rg (σ.1 13)) (
      if (σ.1 13) = 6 then
        some ((-1000000004), σ)
      else
        gd (0 ≤ (σ.1 13) ∧ (σ.1 13) < 6) (
        nm (sA σ 18 (va_up (σ.2 18) (Int.toNat (σ.1 13)) x1)) fun σ48 =>
        gd (0 ≤ (σ48.1 13) ∧ (σ48.1 13) < 6) (
        nm (sA σ48 19 (va_up (σ48.2 19) (Int.toNat (σ48.1 13)) x2)) fun σ58 =>
        nm (sI σ58 13 ((σ58.1 13) + 1)) fun σ66 =>
        some ((σ66.1 13), σ66))))))))
def pX11_see (σ : St) (x1 : Int) (x2 : Int) : Option (Int × St) := pX11_see_0 σ x1 x2
def pX2_fits_2 (σ : St) : Nat → Int → Int → Option (Int)
  | 0, _, _ => none
  | n + 1, x1, x2 =>
    gd (rg x2 ∧ rg (σ.1 24)) (
    if (σ.1 24) ≤ x2 then
      some 1
    else
      gd (rg x2) (
      if 6 ≤ x2 then
        some 1
      else
        gd (0 ≤ x2 ∧ x2 < 6) (
        gd (rg (σ.2 17 (Int.toNat x2))) (
        if (σ.2 17 (Int.toNat x2)) ≤ 0 then
          some 0
        else
          gd (0 ≤ x2 ∧ x2 < 6) (
          gd (dv x1 (σ.2 17 (Int.toNat x2))) (
          gd (0 ≤ x2 ∧ x2 < 6) (
          gd (rg (x1 / (σ.2 17 (Int.toNat x2))) ∧ rg (σ.2 18 (Int.toNat x2))) (
          if (x1 / (σ.2 17 (Int.toNat x2))) = (σ.2 18 (Int.toNat x2)) then
            pX2_fits_2 σ n x1 (x2 + 1)
          else
            some 0))))))))
def pX2_fits_0 (σ : St) (x1 : Int) : Option (Int) :=
  pX2_fits_2 σ FU x1 0
def pX2_fits (σ : St) (x1 : Int) : Option (Int) := pX2_fits_0 σ x1
def pX2_fittingAges_26 (k4 : Int → Int → Option (Int)) (σ : St) (x2 : Int) (t0 : Int) (t1 : Int) : Option (Int) :=
  k4 (zOr t0 t1) (x2 + 1)
def pX2_fittingAges_4 (σ : St) : Nat → Int → Int → Option (Int)
  | 0, _, _ => none
  | n + 1, x1, x2 =>
    gd (rg x2) (
    if 30 < x2 then
      some x1
    else
      Option.bind (pX2_fits σ x2) fun r13 =>
      gd (rg r13) (
      if r13 = 0 then
        pX2_fittingAges_26 ((pX2_fittingAges_4 σ n)) σ x2 x1 0
      else
        pX2_fittingAges_26 ((pX2_fittingAges_4 σ n)) σ x2 x1 (zShl 1 x2)))
def pX2_fittingAges_0 (σ : St) : Option (Int) :=
  pX2_fittingAges_4 σ FU 0 0
def pX2_fittingAges (σ : St) : Option (Int) := pX2_fittingAges_0 σ
def pX10_ages_0 (σ : St) : Option (Int) :=
  Option.bind (pX2_fittingAges σ) fun r4 =>
  some r4
def pX10_ages (σ : St) : Option (Int) := pX10_ages_0 σ
def pX11_couldBe_38 (k4 : Int → Int → Int → Option (Int)) (σ : St) (x1 : Int) (x3 : Int) (t0 : Int) : Option (Int) :=
  k4 x1 t0 (x3 + 1)
def pX11_couldBe_37 (k4 : Int → Int → Int → Option (Int)) (σ : St) (x1 : Int) (x3 : Int) : Option (Int) :=
  pX11_couldBe_38 k4 σ x1 x3 0
def pX11_couldBe_4 (σ : St) : Nat → Int → Int → Int → Option (Int)
  | 0, _, _, _ => none
  | n + 1, x1, x2, x3 =>
    gd (rg x3 ∧ rg (σ.1 13)) (
    if (σ.1 13) ≤ x3 then
      gd (x2 = 0 ∨ x2 = 1) (
      some x2)
    else
      gd (rg x2) (
      if x2 = 0 then
        pX11_couldBe_37 ((pX11_couldBe_4 σ n)) σ x1 x3
      else
        gd (0 ≤ x3 ∧ x3 < 6) (
        gd (dv x1 (σ.2 18 (Int.toNat x3))) (
        gd (0 ≤ x3 ∧ x3 < 6) (
        gd (rg (x1 / (σ.2 18 (Int.toNat x3))) ∧ rg (σ.2 19 (Int.toNat x3))) (
        if (x1 / (σ.2 18 (Int.toNat x3))) = (σ.2 19 (Int.toNat x3)) then
          pX11_couldBe_38 ((pX11_couldBe_4 σ n)) σ x1 x3 1
        else
          pX11_couldBe_37 ((pX11_couldBe_4 σ n)) σ x1 x3))))))
def pX11_couldBe_0 (σ : St) (x1 : Int) : Option (Int) :=
  pX11_couldBe_4 σ FU x1 1 0
def pX11_couldBe (σ : St) (x1 : Int) : Option (Int) := pX11_couldBe_0 σ x1
def pX11_ages_26 (k4 : Int → Int → Option (Int)) (σ : St) (x2 : Int) (t0 : Int) (t1 : Int) : Option (Int) :=
  k4 (zOr t0 t1) (x2 + 1)
def pX11_ages_4 (σ : St) : Nat → Int → Int → Option (Int)
  | 0, _, _ => none
  | n + 1, x1, x2 =>
    gd (rg x2) (
    if 31 ≤ x2 then
      some x1
    else
      Option.bind (pX11_couldBe σ x2) fun r13 =>
      gd (rg r13) (
      if r13 = 0 then
        pX11_ages_26 ((pX11_ages_4 σ n)) σ x2 x1 0
      else
        pX11_ages_26 ((pX11_ages_4 σ n)) σ x2 x1 (zShl 1 x2)))
def pX11_ages_0 (σ : St) : Option (Int) :=
  pX11_ages_4 σ FU 0 0
def pX11_ages (σ : St) : Option (Int) := pX11_ages_0 σ
def pX2_greatestPart_27 (k7 : Int → Int → Int → Int → Int → Option (Int)) (x0 : Int) (x1 : Int) (x2 : Int) (x3 : Int) (x4 : Int) : Option (Int) :=
  gd (rg x2 ∧ rg (x3 + (zAnd (zShr x0 x4) 1))) (
  k7 x0 x1 (max x2 (x3 + (zAnd (zShr x0 x4) 1))) (x3 + (zAnd (zShr x0 x4) 1)) (x4 + 1))
def pX2_greatestPart_25 (k7 : Int → Int → Int → Int → Int → Option (Int)) (x0 : Int) (x1 : Int) (x2 : Int) (x4 : Int) : Option (Int) :=
  pX2_greatestPart_27 k7 x0 x1 x2 0 x4
def pX2_greatestPart_7 : Nat → Int → Int → Int → Int → Int → Option (Int)
  | 0, _, _, _, _, _ => none
  | n + 1, x0, x1, x2, x3, x4 =>
    gd (rg x4) (
    if 30 < x4 then
      some x2
    else
      gd (rg x1) (
      if x1 ≤ 0 then
        pX2_greatestPart_25 ((pX2_greatestPart_7 n)) x0 x1 x2 x4
      else
        gd (dv x4 x1) (
        gd (rg (x4 % x1)) (
        if (x4 % x1) = 0 then
          pX2_greatestPart_25 ((pX2_greatestPart_7 n)) x0 x1 x2 x4
        else
          pX2_greatestPart_27 ((pX2_greatestPart_7 n)) x0 x1 x2 x3 x4))))
def pX2_greatestPart_0 (x0 : Int) (x1 : Int) : Option (Int) :=
  pX2_greatestPart_7 FU x0 x1 0 0 0
def pX2_greatestPart (x0 : Int) (x1 : Int) : Option (Int) := pX2_greatestPart_0 x0 x1
def pX2_bestTest_42 (k15 : Int → Int → Int → Int → Option (Int)) (σ : St) (x1 : Int) (x2 : Int) (x3 : Int) (x4 : Int) : Option (Int) :=
  k15 x1 x2 x3 (x4 + 1)
def pX2_bestTest_15 (σ : St) : Nat → Int → Int → Int → Int → Option (Int)
  | 0, _, _, _, _ => none
  | n + 1, x1, x2, x3, x4 =>
    gd (rg x4) (
    if 9 < x4 then
      some x2
    else
      Option.bind (pX2_greatestPart x1 x4) fun r25 =>
      gd (rg r25 ∧ rg x3) (
      if x3 ≤ r25 then
        pX2_bestTest_42 ((pX2_bestTest_15 σ n)) σ x1 x2 x3 x4
      else
        pX2_bestTest_42 ((pX2_bestTest_15 σ n)) σ x1 x4 r25 x4))
def pX2_bestTest_0 (σ : St) : Option (Int) :=
  Option.bind (pX2_fittingAges σ) fun r1 =>
  Option.bind (pJ6_bitCount_0f7a4 r1) fun r8 =>
  pX2_bestTest_15 σ FU r1 (-1) r8 1
def pX2_bestTest (σ : St) : Option (Int) := pX2_bestTest_0 σ
def pX10_testNext_0 (σ : St) : Option (Int) :=
  Option.bind (pX2_bestTest σ) fun r4 =>
  some r4
def pX10_testNext (σ : St) : Option (Int) := pX10_testNext_0 σ
def pX11_greatestPart_76 (k25 : St → Int → Int → Int → Option (Int × St)) (σ : St) (x1 : Int) (x2 : Int) (x3 : Int) : Option (Int × St) :=
  k25 σ x1 x2 (x3 + 1)
def pX11_greatestPart_75 (k25 : St → Int → Int → Int → Option (Int × St)) (σ : St) (x1 : Int) (x3 : Int) (t0 : Int) : Option (Int × St) :=
  pX11_greatestPart_76 k25 σ x1 t0 x3
def pX11_greatestPart_25 : Nat → St → Int → Int → Int → Option (Int × St)
  | 0, _, _, _, _ => none
  | n + 1, σ, x1, x2, x3 =>
    gd (rg x3) (
    if 31 ≤ x3 then
      some (x2, σ)
    else
      Option.bind (pX11_couldBe σ x3) fun r33 =>
      gd (rg r33) (
      if r33 = 0 then
        pX11_greatestPart_76 ((pX11_greatestPart_25 n)) σ x1 x2 x3
      else
        gd (dv x3 x1) (
        gd (0 ≤ (x3 / x1) ∧ (x3 / x1) < 31) (
        gd (0 ≤ (x3 / x1) ∧ (x3 / x1) < 31) (
        nm (sA σ 20 (va_up (σ.2 20) (Int.toNat (x3 / x1)) ((σ.2 20 (Int.toNat (x3 / x1))) + 1))) fun σ50 =>
        gd (dv x3 x1) (
        gd (0 ≤ (x3 / x1) ∧ (x3 / x1) < 31) (
        gd (rg (σ50.2 20 (Int.toNat (x3 / x1))) ∧ rg x2) (
        if (σ50.2 20 (Int.toNat (x3 / x1))) ≤ x2 then
          pX11_greatestPart_75 ((pX11_greatestPart_25 n)) σ50 x1 x3 x2
        else
          gd (dv x3 x1) (
          gd (0 ≤ (x3 / x1) ∧ (x3 / x1) < 31) (
          pX11_greatestPart_75 ((pX11_greatestPart_25 n)) σ50 x1 x3 (σ50.2 20 (Int.toNat (x3 / x1)))))))))))))
def pX11_greatestPart_4 : Nat → St → Int → Int → Int → Option (Int × St)
  | 0, _, _, _, _ => none
  | n + 1, σ, x1, x2, x3 =>
    gd (rg x3) (
    if 31 ≤ x3 then
      pX11_greatestPart_25 FU σ x1 x2 0
    else
      gd (0 ≤ x3 ∧ x3 < 31) (
      nm (sA σ 20 (va_up (σ.2 20) (Int.toNat x3) 0)) fun σ16 =>
      pX11_greatestPart_4 n σ16 x1 x2 (x3 + 1)))
def pX11_greatestPart_0 (σ : St) (x1 : Int) : Option (Int × St) :=
  pX11_greatestPart_4 FU σ x1 0 0
def pX11_greatestPart (σ : St) (x1 : Int) : Option (Int × St) := pX11_greatestPart_0 σ x1
def pX11_testNext_26 (k6 : St → Int → Int → Int → Option (Int × St)) (σ : St) (x1 : Int) (x3 : Int) (t0 : Int) (t1 : Int) : Option (Int × St) :=
  k6 σ x1 (t0 + t1) (x3 + 1)
def pX11_testNext_73 (k36 : St → Int → Int → Int → Option (Int × St)) (σ : St) (x1 : Int) (x3 : Int) (t0 : Int) : Option (Int × St) :=
  k36 σ x1 t0 (x3 + 1)
def pX11_testNext_60 (k36 : St → Int → Int → Int → Option (Int × St)) (σ : St) (x2 : Int) (x3 : Int) (x4 : Int) (t0 : Int) : Option (Int × St) :=
  gd (rg x4 ∧ rg x2) (
  if x2 ≤ x4 then
    pX11_testNext_73 k36 σ t0 x3 x2
  else
    pX11_testNext_73 k36 σ t0 x3 x4)
def pX11_testNext_36 : Nat → St → Int → Int → Int → Option (Int × St)
  | 0, _, _, _, _ => none
  | n + 1, σ, x1, x2, x3 =>
    gd (rg x3) (
    if 10 ≤ x3 then
      some (x1, σ)
    else
      Option.bind (pX11_greatestPart σ x3) fun u44 => nm u44.1 fun r44 => nm u44.2 fun σ44 =>
      gd (rg r44 ∧ rg x2) (
      if x2 ≤ r44 then
        pX11_testNext_60 ((pX11_testNext_36 n)) σ44 x2 x3 r44 x1
      else
        pX11_testNext_60 ((pX11_testNext_36 n)) σ44 x2 x3 r44 x3))
def pX11_testNext_6 : Nat → St → Int → Int → Int → Option (Int × St)
  | 0, _, _, _, _ => none
  | n + 1, σ, x1, x2, x3 =>
    gd (rg x3) (
    if 31 ≤ x3 then
      pX11_testNext_36 FU σ x1 x2 1
    else
      Option.bind (pX11_couldBe σ x3) fun r15 =>
      gd (rg r15) (
      if r15 = 0 then
        pX11_testNext_26 ((pX11_testNext_6 n)) σ x1 x3 x2 0
      else
        pX11_testNext_26 ((pX11_testNext_6 n)) σ x1 x3 x2 1))
def pX11_testNext_0 (σ : St) : Option (Int × St) :=
  pX11_testNext_6 FU σ (-1) 0 0
def pX11_testNext (σ : St) : Option (Int × St) := pX11_testNext_0 σ
def pX1_add_0 (σ : St) (x1 : Int) (x2 : Int) : Option (Int × St) :=
  gd (rg (σ.1 25)) (
  if (σ.1 25) < 0 then
    some (0, σ)
  else
    gd (rg (σ.1 25)) (
    if (σ.1 25) < 15 then
      gd (0 ≤ (σ.1 25) ∧ (σ.1 25) < 15) (
      nm (sA σ 19 (va_up (σ.2 19) (Int.toNat (σ.1 25)) x1)) fun σ27 =>
      gd (0 ≤ (σ27.1 25) ∧ (σ27.1 25) < 15) (
      nm (sA σ27 20 (va_up (σ27.2 20) (Int.toNat (σ27.1 25)) x2)) fun σ37 =>
      nm (sI σ37 25 ((σ37.1 25) + 1)) fun σ45 =>
      some (1, σ45)))
    else
      some (0, σ)))
def pX1_add (σ : St) (x1 : Int) (x2 : Int) : Option (Int × St) := pX1_add_0 σ x1 x2
def pX10_write_0 (σ : St) (x1 : Int) (x2 : Int) : Option (Int × St) :=
  Option.bind (pX8_hasEgg_c1 σ x1) fun r5 =>
  gd (rg r5) (
  if r5 = 0 then
    some ((-1000000001), σ)
  else
    Option.bind (pX10_isWithin x2 0 5) fun r17 =>
    gd (rg r17) (
    if r17 = 0 then
      some ((-1000000002), σ)
    else
      Option.bind (pX1_add σ x1 x2) fun u32 => nm u32.1 fun r32 => nm u32.2 fun σ32 =>
      gd (rg r32) (
      if r32 = 0 then
        some ((-1000000004), σ32)
      else
        some ((σ32.1 25), σ32))))
def pX10_write (σ : St) (x1 : Int) (x2 : Int) : Option (Int × St) := pX10_write_0 σ x1 x2
def pX11_write_0 (σ : St) (x1 : Int) (x2 : Int) : Option (Int × St) :=
  Option.bind (pX11_isEgg σ x1) fun r2 =>
  gd (rg r2) (
  if r2 = 0 then
    some ((-1000000001), σ)
  else
    gd (rg x2) (
    Option.bind (pX11_in x2 0 5) fun r17 =>
    gd (rg r17) (
    if r17 = 0 then
      some ((-1000000002), σ)
    else
      gd (rg (σ.1 14)) (
      if (σ.1 14) = 15 then
        some ((-1000000004), σ)
      else
        gd (0 ≤ (σ.1 14) ∧ (σ.1 14) < 15) (
        nm (sA σ 21 (va_up (σ.2 21) (Int.toNat (σ.1 14)) x1)) fun σ47 =>
        gd (0 ≤ (σ47.1 14) ∧ (σ47.1 14) < 15) (
        nm (sA σ47 22 (va_up (σ47.2 22) (Int.toNat (σ47.1 14)) x2)) fun σ57 =>
        nm (sI σ57 14 ((σ57.1 14) + 1)) fun σ65 =>
        some ((σ65.1 14), σ65)))))))
def pX11_write (σ : St) (x1 : Int) (x2 : Int) : Option (Int × St) := pX11_write_0 σ x1 x2
def pX10_tear_0 (σ : St) : Option (Int × St) :=
  Option.bind (pX2_forget σ) fun σ20 =>
  Option.bind (pX1_forget σ20) fun σ27 =>
  some (((σ.1 24) + (σ.1 25)), σ27)
def pX10_tear (σ : St) : Option (Int × St) := pX10_tear_0 σ
def pX11_tear_0 (σ : St) : Option (Int × St) :=
  nm (sI σ 13 0) fun σ12 =>
  nm (sI σ12 14 0) fun σ17 =>
  some (((σ.1 13) + (σ.1 14)), σ17)
def pX11_tear (σ : St) : Option (Int × St) := pX11_tear_0 σ
def pX1_firstWrong_2 (σ : St) : Nat → Int → Option (Int)
  | 0, _ => none
  | n + 1, x2 =>
    gd (rg x2 ∧ rg (σ.1 25)) (
    if (σ.1 25) ≤ x2 then
      some (-1)
    else
      gd (rg x2) (
      if 15 ≤ x2 then
        some (-1)
      else
        gd (0 ≤ x2 ∧ x2 < 15) (
        Option.bind (pX4_stateOf σ (σ.2 19 (Int.toNat x2))) fun r23 =>
        gd (0 ≤ x2 ∧ x2 < 15) (
        gd (rg r23 ∧ rg (σ.2 20 (Int.toNat x2))) (
        if r23 = (σ.2 20 (Int.toNat x2)) then
          pX1_firstWrong_2 σ n (x2 + 1)
        else
          some x2)))))
def pX1_firstWrong_0 (σ : St) : Option (Int) :=
  pX1_firstWrong_2 σ FU 0
def pX1_firstWrong (σ : St) : Option (Int) := pX1_firstWrong_0 σ
def pX10_judge_0 (σ : St) : Option (Int) :=
  Option.bind (pX1_firstWrong σ) fun r8 =>
  some r8
def pX10_judge (σ : St) : Option (Int) := pX10_judge_0 σ
def pX11_judge_2 (σ : St) : Nat → Int → Option (Int)
  | 0, _ => none
  | n + 1, x1 =>
    gd (rg x1 ∧ rg (σ.1 14)) (
    if (σ.1 14) ≤ x1 then
      some (-1)
    else
      gd (0 ≤ x1 ∧ x1 < 15) (
      gd (0 ≤ (σ.2 21 (Int.toNat x1)) ∧ (σ.2 21 (Int.toNat x1)) < 19) (
      gd (0 ≤ x1 ∧ x1 < 15) (
      gd (rg (σ.2 5 (Int.toNat (σ.2 21 (Int.toNat x1)))) ∧ rg (σ.2 22 (Int.toNat x1))) (
      if (σ.2 5 (Int.toNat (σ.2 21 (Int.toNat x1)))) = (σ.2 22 (Int.toNat x1)) then
        pX11_judge_2 σ n (x1 + 1)
      else
        some x1)))))
def pX11_judge_0 (σ : St) : Option (Int) :=
  pX11_judge_2 σ FU 0
def pX11_judge (σ : St) : Option (Int) := pX11_judge_0 σ
def pX10_seed_0 (σ : St) (x1 : Int) : Option (Int × St) :=
  gd (rg x1) (
  if 0 ≤ x1 then
    nm (sI σ 1 x1) fun σ14 =>
    some ((σ.1 1), σ14)
  else
    some ((-1000000002), σ))
def pX10_seed (σ : St) (x1 : Int) : Option (Int × St) := pX10_seed_0 σ x1
def pX11_seed_0 (σ : St) (x1 : Int) : Option (Int × St) :=
  gd (rg x1) (
  if 0 ≤ x1 then
    nm (sI σ 4 x1) fun σ14 =>
    some ((σ.1 4), σ14)
  else
    some ((-1000000002), σ))
def pX11_seed (σ : St) (x1 : Int) : Option (Int × St) := pX11_seed_0 σ x1
def pX4_isRow_a21_0 (σ : St) (x1 : Int) : Option (Int) :=
  gd (rg x1) (
  if x1 < 0 then
    some 0
  else
    gd (rg x1 ∧ rg (40 - 20)) (
    if (40 - 20) < x1 then
      some 0
    else
      some 1))
def pX4_isRow_a21 (σ : St) (x1 : Int) : Option (Int) := pX4_isRow_a21_0 σ x1
def pX4_saveTo_a21_0 (σ : St) (x2 : Int) : Option (St) :=
  Option.bind (pX4_isRow_a21 σ x2) fun r2 =>
  gd (rg r2) (
  if r2 = 0 then
    some σ
  else
    gd ((0 : Int) ≤ 0 ∧ (0 : Int) ≤ x2 ∧ (0 : Int) ≤ 7 ∧ (0 : Int) + 7 ≤ 7 ∧ (x2 : Int) + 7 ≤ 40) (
    nm (sA σ 14 (va_cpy (σ.2 11) (σ.2 14) 0 (Int.toNat x2) 7)) fun σ18 =>
    gd ((0 : Int) ≤ 0 ∧ (0 : Int) ≤ (x2 + 7) ∧ (0 : Int) ≤ 7 ∧ (0 : Int) + 7 ≤ 7 ∧ ((x2 + 7) : Int) + 7 ≤ 40) (
    nm (sA σ18 14 (va_cpy (σ18.2 12) (σ18.2 14) 0 (Int.toNat (x2 + 7)) 7)) fun σ33 =>
    gd (0 ≤ (x2 + 14) ∧ (x2 + 14) < 40) (
    nm (sA σ33 14 (va_up (σ33.2 14) (Int.toNat (x2 + 14)) (σ33.1 16))) fun σ47 =>
    gd (0 ≤ ((x2 + 14) + 1) ∧ ((x2 + 14) + 1) < 40) (
    nm (sA σ47 14 (va_up (σ47.2 14) (Int.toNat ((x2 + 14) + 1)) (σ47.1 17))) fun σ56 =>
    gd (0 ≤ ((x2 + 14) + 2) ∧ ((x2 + 14) + 2) < 40) (
    nm (sA σ56 14 (va_up (σ56.2 14) (Int.toNat ((x2 + 14) + 2)) (σ56.1 18))) fun σ65 =>
    gd (0 ≤ ((x2 + 14) + 3) ∧ ((x2 + 14) + 3) < 40) (
    nm (sA σ65 14 (va_up (σ65.2 14) (Int.toNat ((x2 + 14) + 3)) (σ65.1 19))) fun σ74 =>
    gd (0 ≤ ((x2 + 14) + 4) ∧ ((x2 + 14) + 4) < 40) (
    nm (sA σ74 14 (va_up (σ74.2 14) (Int.toNat ((x2 + 14) + 4)) (σ74.1 20))) fun σ83 =>
    gd (0 ≤ ((x2 + 14) + 5) ∧ ((x2 + 14) + 5) < 40) (
    nm (sA σ83 14 (va_up (σ83.2 14) (Int.toNat ((x2 + 14) + 5)) (σ83.1 21))) fun σ92 =>
    some σ92)))))))))
def pX4_saveTo_a21 (σ : St) (x2 : Int) : Option (St) := pX4_saveTo_a21_0 σ x2
def pX3_take_0 (σ : St) (x1 : Int) (x3 : Int) : Option (St) :=
  gd (rg x1) (
  if x1 < 0 then
    some σ
  else
    gd (rg x1) (
    if 2 ≤ x1 then
      some σ
    else
      Option.bind (pX4_saveTo_a21 σ (x1 * 20)) fun σ18 =>
      gd (0 ≤ x1 ∧ x1 < 2) (
      nm (sA σ18 15 (va_up (σ18.2 15) (Int.toNat x1) x3)) fun σ27 =>
      gd (0 ≤ x1 ∧ x1 < 2) (
      nm (sA σ27 16 (va_up (σ27.2 16) (Int.toNat x1) 1)) fun σ34 =>
      some σ34))))
def pX3_take (σ : St) (x1 : Int) (x3 : Int) : Option (St) := pX3_take_0 σ x1 x3
def pX10_keep_0 (σ : St) (x1 : Int) : Option (Int × St) :=
  Option.bind (pX10_isWithin x1 0 1) fun r3 =>
  gd (rg r3) (
  if r3 = 0 then
    some ((-1000000001), σ)
  else
    Option.bind (pX3_take σ x1 (σ.1 1)) fun σ25 =>
    Option.bind (pX5_forget σ25) fun σ32 =>
    some (1, σ32))
def pX10_keep (σ : St) (x1 : Int) : Option (Int × St) := pX10_keep_0 σ x1
def pX11_keep_15 : Nat → St → Int → Int → Option (Int × St)
  | 0, _, _, _ => none
  | n + 1, σ, x1, x2 =>
    gd (rg x2) (
    if 19 ≤ x2 then
      gd (0 ≤ ((20 * x1) + 19) ∧ ((20 * x1) + 19) < 40) (
      nm (sA σ 23 (va_up (σ.2 23) (Int.toNat ((20 * x1) + 19)) (σ.1 4))) fun σ59 =>
      gd (0 ≤ x1 ∧ x1 < 2) (
      nm (sA σ59 24 (va_up (σ59.2 24) (Int.toNat x1) 1)) fun σ66 =>
      nm (sI σ66 12 0) fun σ69 =>
      some (1, σ69)))
    else
      gd (0 ≤ x2 ∧ x2 < 19) (
      gd (0 ≤ ((20 * x1) + x2) ∧ ((20 * x1) + x2) < 40) (
      nm (sA σ 23 (va_up (σ.2 23) (Int.toNat ((20 * x1) + x2)) (σ.2 5 (Int.toNat x2)))) fun σ37 =>
      pX11_keep_15 n σ37 x1 (x2 + 1))))
def pX11_keep_0 (σ : St) (x1 : Int) : Option (Int × St) :=
  gd (rg x1) (
  Option.bind (pX11_in x1 0 1) fun r4 =>
  gd (rg r4) (
  if r4 = 0 then
    some ((-1000000001), σ)
  else
    pX11_keep_15 FU σ x1 0))
def pX11_keep (σ : St) (x1 : Int) : Option (Int × St) := pX11_keep_0 σ x1
def pX3_has_0 (σ : St) (x1 : Int) : Option (Int) :=
  gd (rg x1) (
  if x1 < 0 then
    some 0
  else
    gd (rg x1) (
    if 2 ≤ x1 then
      some 0
    else
      gd (0 ≤ x1 ∧ x1 < 2) (
      gd (rg (σ.2 16 (Int.toNat x1))) (
      if (σ.2 16 (Int.toNat x1)) = 0 then
        some 0
      else
        some 1))))
def pX3_has (σ : St) (x1 : Int) : Option (Int) := pX3_has_0 σ x1
def pX4_loadFrom_a21_0 (σ : St) (x2 : Int) : Option (St) :=
  Option.bind (pX4_isRow_a21 σ x2) fun r2 =>
  gd (rg r2) (
  if r2 = 0 then
    some σ
  else
    gd ((0 : Int) ≤ x2 ∧ (0 : Int) ≤ 0 ∧ (0 : Int) ≤ 7 ∧ (x2 : Int) + 7 ≤ 40 ∧ (0 : Int) + 7 ≤ 7) (
    nm (sA σ 11 (va_cpy (σ.2 14) (σ.2 11) (Int.toNat x2) 0 7)) fun σ18 =>
    gd ((0 : Int) ≤ (x2 + 7) ∧ (0 : Int) ≤ 0 ∧ (0 : Int) ≤ 7 ∧ ((x2 + 7) : Int) + 7 ≤ 40 ∧ (0 : Int) + 7 ≤ 7) (
    nm (sA σ18 12 (va_cpy (σ18.2 14) (σ18.2 12) (Int.toNat (x2 + 7)) 0 7)) fun σ33 =>
    gd (0 ≤ (x2 + 14) ∧ (x2 + 14) < 40) (
    nm (sI σ33 16 (σ33.2 14 (Int.toNat (x2 + 14)))) fun σ45 =>
    gd (0 ≤ ((x2 + 14) + 1) ∧ ((x2 + 14) + 1) < 40) (
    nm (sI σ45 17 (σ45.2 14 (Int.toNat ((x2 + 14) + 1)))) fun σ54 =>
    gd (0 ≤ ((x2 + 14) + 2) ∧ ((x2 + 14) + 2) < 40) (
    nm (sI σ54 18 (σ54.2 14 (Int.toNat ((x2 + 14) + 2)))) fun σ63 =>
    gd (0 ≤ ((x2 + 14) + 3) ∧ ((x2 + 14) + 3) < 40) (
    nm (sI σ63 19 (σ63.2 14 (Int.toNat ((x2 + 14) + 3)))) fun σ72 =>
    gd (0 ≤ ((x2 + 14) + 4) ∧ ((x2 + 14) + 4) < 40) (
    nm (sI σ72 20 (σ72.2 14 (Int.toNat ((x2 + 14) + 4)))) fun σ81 =>
    gd (0 ≤ ((x2 + 14) + 5) ∧ ((x2 + 14) + 5) < 40) (
    nm (sI σ81 21 (σ81.2 14 (Int.toNat ((x2 + 14) + 5)))) fun σ90 =>
    some σ90)))))))))
def pX4_loadFrom_a21 (σ : St) (x2 : Int) : Option (St) := pX4_loadFrom_a21_0 σ x2
def pX3_show_0 (σ : St) (x1 : Int) : Option (St) :=
  Option.bind (pX3_has σ x1) fun r2 =>
  gd (rg r2) (
  if r2 = 0 then
    some σ
  else
    Option.bind (pX4_loadFrom_a21 σ (x1 * 20)) fun σ17 =>
    some σ17)
def pX3_show (σ : St) (x1 : Int) : Option (St) := pX3_show_0 σ x1
def pX3_seedOf_0 (σ : St) (x1 : Int) : Option (Int) :=
  Option.bind (pX3_has σ x1) fun r2 =>
  gd (rg r2) (
  if r2 = 0 then
    some 0
  else
    gd (0 ≤ x1 ∧ x1 < 2) (
    some (σ.2 15 (Int.toNat x1))))
def pX3_seedOf (σ : St) (x1 : Int) : Option (Int) := pX3_seedOf_0 σ x1
def pX10_goBack_0 (σ : St) (x1 : Int) : Option (Int × St) :=
  Option.bind (pX10_isWithin x1 0 1) fun r3 =>
  gd (rg r3) (
  if r3 = 0 then
    some ((-1000000001), σ)
  else
    Option.bind (pX3_has σ x1) fun r17 =>
    gd (rg r17) (
    if r17 = 0 then
      some ((-1000000003), σ)
    else
      Option.bind (pX3_show σ x1) fun σ35 =>
      Option.bind (pX3_seedOf σ35 x1) fun r44 =>
      nm (sI σ35 1 r44) fun σ47 =>
      Option.bind (pX5_forget σ47) fun σ54 =>
      some (1, σ54)))
def pX10_goBack (σ : St) (x1 : Int) : Option (Int × St) := pX10_goBack_0 σ x1
def pX11_goBack_27 : Nat → St → Int → Int → Option (Int × St)
  | 0, _, _, _ => none
  | n + 1, σ, x1, x2 =>
    gd (rg x2) (
    if 19 ≤ x2 then
      gd (0 ≤ ((20 * x1) + 19) ∧ ((20 * x1) + 19) < 40) (
      nm (sI σ 4 (σ.2 23 (Int.toNat ((20 * x1) + 19)))) fun σ69 =>
      nm (sI σ69 12 0) fun σ74 =>
      some (1, σ74))
    else
      gd (0 ≤ ((20 * x1) + x2) ∧ ((20 * x1) + x2) < 40) (
      gd (0 ≤ x2 ∧ x2 < 19) (
      nm (sA σ 5 (va_up (σ.2 5) (Int.toNat x2) (σ.2 23 (Int.toNat ((20 * x1) + x2))))) fun σ49 =>
      pX11_goBack_27 n σ49 x1 (x2 + 1))))
def pX11_goBack_0 (σ : St) (x1 : Int) : Option (Int × St) :=
  gd (rg x1) (
  Option.bind (pX11_in x1 0 1) fun r4 =>
  gd (rg r4) (
  if r4 = 0 then
    some ((-1000000001), σ)
  else
    gd (0 ≤ x1 ∧ x1 < 2) (
    gd (rg (σ.2 24 (Int.toNat x1))) (
    if (σ.2 24 (Int.toNat x1)) = 0 then
      some ((-1000000003), σ)
    else
      pX11_goBack_27 FU σ x1 0))))
def pX11_goBack (σ : St) (x1 : Int) : Option (Int × St) := pX11_goBack_0 σ x1
