abbrev rmX9_faultPlace : Room := { frames := 0, cells := 0, slots := 0, locals := 0 }
set_option maxHeartbeats 4000000 in
set_option maxRecDepth 100000 in
theorem wX9_faultPlace_0 {p : Program} {l : Launch} {e : Env} {s : State} {m : MethodId} {args : Array Value} {below : List Frame} {meth : Method} {c : Code} {D : va_G} {A : Nat → Prop} {q : Nat → Nat} {cI cZ : ClassId} {Q : State → Prop} {σ : St} {r : Int} (C : Cx p s m args meth c D (TY cI cZ) cX9_faultPlace (some .int) 1 wsX9_faultPlace RX9) (hret : RtI p l e rmX9_faultPlace s m args below meth c D A cX9_faultPlace Q (wE q cI cZ σ) (zI r)) :
    ∀ (H : Heap) (locs : List Loc) (ls : Array Slot), Wd D A s (wE q cI cZ σ) H locs → lv_has ls 1 [(0, .ref (q 7))] → pX9_faultPlace_0 σ = some r → W p l e rmX9_faultPlace s m args below meth c H locs 0 0 Q (F0 m 0 ls []) := by
  obtain ⟨hx, hb, hr, hml, hown, hts, hlk, hK, hN⟩ := id C
  intro H locs ls hw hl hf
  rw [pX9_faultPlace_0] at hf
  refine lv_aload_n hx hb dX9_faultPlace_0 rfl (lv_at hl 0 rfl) ?_
  refine va_get (D := D) (ci := 9) (v := .int (zI (σ.1 10))) (C := RX9) (T := TX9) (N := 5) hx hb hts (fun _ h => List.mem_cons_of_mem _ (List.mem_append_right _ h)) hown hK hw.1 7 rfl rfl 4 (by decide) (hts (.fieldLink RX9 25 "EggThrones$Text" "faultAt" "I") (List.mem_of_getElem? (i := 1) rfl)) (fun _ h9 => h9) rfl dX9_faultPlace_1 ?_
  cases hf
  exact hret H locs ls 4 dX9_faultPlace_4 hw
set_option maxHeartbeats 4000000 in
set_option maxRecDepth 100000 in
theorem tX9_faultPlace {l : Launch} {D : va_G} {A : Nat → Prop} {cI cZ : ClassId} {q : Nat → Nat} {σ : St} {r : Int} (hf : pX9_faultPlace σ = some r) : Met l yX9_faultPlace wsX9_faultPlace rmX9_faultPlace (va_Pc [.ref (q 7)] (CX D (TY cI cZ) A (wE q cI cZ σ))) (QI D (TY cI cZ) A (wE q cI cZ σ) (zI r)) 0 0 A := by
  refine opn (cc := cX9_faultPlace) (maxL := 1) (ret := (some .int)) (by decide) rfl (Nat.le_of_ble_eq_true rfl) (fun p e s m below meth c C ls hw hl => ?_)
  have hl : lv_has ls 1 [(0, .ref (q 7))] := hl
  rw [pX9_faultPlace] at hf
  exact wX9_faultPlace_0 C (rtI C) _ _ ls hw (lv_sub hl [0] rfl) hf
abbrev rmX9_empty : Room := { frames := 0, cells := 0, slots := 0, locals := 0 }
set_option maxHeartbeats 4000000 in
set_option maxRecDepth 100000 in
theorem wX9_empty_0 {p : Program} {l : Launch} {e : Env} {s : State} {m : MethodId} {args : Array Value} {below : List Frame} {meth : Method} {c : Code} {D : va_G} {A : Nat → Prop} {q : Nat → Nat} {cI cZ : ClassId} {Q : State → Prop} {τ : St} (C : Cx p s m args meth c D (TY cI cZ) cX9_empty none 1 wsX9_empty RX9) (hret : RtV p l e rmX9_empty s m args below meth c D A cX9_empty Q (wE q cI cZ τ)) :
    ∀ (σ : St) (H : Heap) (locs : List Loc) (ls : Array Slot), Wd D A s (wE q cI cZ σ) H locs → lv_has ls 1 [(0, .ref (q 7))] → pX9_empty_0 σ = some τ → W p l e rmX9_empty s m args below meth c H locs 0 0 Q (F0 m 0 ls []) := by
  obtain ⟨hx, hb, hr, hml, hown, hts, hlk, hK, hN⟩ := id C
  intro σ H locs ls hw hl hf
  rw [pX9_empty_0] at hf
  refine lv_aload_n hx hb dX9_empty_0 rfl (lv_at hl 0 rfl) ?_
  refine lv_iconst (v := zI 0) hx hb dX9_empty_1 rfl ?_
  refine va_put (D := D) (ci := 9) (v := .int (zI 0)) (ty := .int) (C := RX9) (T := TX9) (N := 5) hx hb hts (fun _ h => List.mem_cons_of_mem _ (List.mem_append_right _ h)) tyX9 tyX9_ok nmX9 hown hK hw.1 hw.2.1 hw.2.2 7 rfl rfl 1 (by decide) (hts (.fieldLink RX9 15 "EggThrones$Text" "count" "I") (List.mem_of_getElem? (i := 1) rfl)) (fun _ h9 => h9) rfl (by decide +kernel) rfl rfl (Nat.le_of_ble_eq_true rfl) dX9_empty_2 (fun H locs hP hD hS => ?_)
  have hw : Wd D A s (wE q cI cZ (sI σ 7 0)) H locs := wdiE_7 hP hD hS
  obtain ⟨σ2, e2, hf⟩ := nm_s hf
  replace hf := bt_s hf
  rw [← e2] at hw
  cases hf
  exact hret H locs ls 5 dX9_empty_5 hw
set_option maxHeartbeats 4000000 in
set_option maxRecDepth 100000 in
theorem tX9_empty {l : Launch} {D : va_G} {A : Nat → Prop} {cI cZ : ClassId} {q : Nat → Nat} {σ : St} {τ : St} (hf : pX9_empty σ = some τ) : Met l yX9_empty wsX9_empty rmX9_empty (va_Pc [.ref (q 7)] (CX D (TY cI cZ) A (wE q cI cZ σ))) (QV D (TY cI cZ) A (wE q cI cZ τ)) 0 0 A := by
  refine opn (cc := cX9_empty) (maxL := 1) (ret := none) (by decide) rfl (Nat.le_of_ble_eq_true rfl) (fun p e s m below meth c C ls hw hl => ?_)
  have hl : lv_has ls 1 [(0, .ref (q 7))] := hl
  rw [pX9_empty] at hf
  exact wX9_empty_0 C (rtV C) σ _ _ ls hw (lv_sub hl [0] rfl) hf
abbrev rmX8_layPan_c1 : Room := { frames := 0, cells := 0, slots := 0, locals := 0 }
set_option maxHeartbeats 4000000 in
set_option maxRecDepth 100000 in
theorem wX8_layPan_c1_0 {p : Program} {l : Launch} {e : Env} {s : State} {m : MethodId} {args : Array Value} {below : List Frame} {meth : Method} {c : Code} {D : va_G} {A : Nat → Prop} {q : Nat → Nat} {cI cZ : ClassId} {Q : State → Prop} {τ : St} (C : Cx p s m args meth c D (TY cI cZ) cX8_layPan none 4 wsX8_layPan RX8) (hret : RtV p l e rmX8_layPan_c1 s m args below meth c D A cX8_layPan Q (wE q cI cZ τ)) :
    ∀ (σ : St) (x1 : Int) (x2 : Int) (x3 : Int) (H : Heap) (locs : List Loc) (ls : Array Slot), Wd D A s (wE q cI cZ σ) H locs → lv_has ls 4 [(0, .ref (q 1)), (1, .int (zI x1)), (2, .int (zI x2)), (3, .int (zI x3))] → pX8_layPan_c1_0 σ x1 x2 x3 = some τ → W p l e rmX8_layPan_c1 s m args below meth c H locs 0 0 Q (F0 m 0 ls []) := by
  obtain ⟨hx, hb, hr, hml, hown, hts, hlk, hK, hN⟩ := id C
  intro σ x1 x2 x3 H locs ls hw hl hf
  rw [pX8_layPan_c1_0] at hf
  refine lv_aload_n hx hb dX8_layPan_0 rfl (lv_at hl 0 rfl) ?_
  refine lv_iload_n hx hb dX8_layPan_1 rfl (lv_at hl 1 rfl) ?_
  refine va_put (D := D) (ci := 8) (v := .int (zI x1)) (ty := .int) (C := RX8) (T := TX8) (N := 10) hx hb hts (fun _ h => List.mem_cons_of_mem _ (List.mem_append_right _ h)) tyX8 tyX8_ok nmX8 hown hK hw.1 hw.2.1 hw.2.2 1 rfl rfl 0 (by decide) (hts (.fieldLink RX8 27 "EggThrones$Table" "places" "I") (List.mem_of_getElem? (i := 1) rfl)) (fun _ h9 => h9) rfl (by decide +kernel) rfl rfl (Nat.le_of_ble_eq_true rfl) dX8_layPan_2 (fun H locs hP hD hS => ?_)
  have hw : Wd D A s (wE q cI cZ (sI σ 2 x1)) H locs := wdiE_2 hP hD hS
  obtain ⟨σ2, e2, hf⟩ := nm_s hf
  replace hf := bt_s hf
  rw [← e2] at hw
  refine lv_aload_n hx hb dX8_layPan_5 rfl (lv_at hl 0 rfl) ?_
  refine lv_iload_n hx hb dX8_layPan_6 rfl (lv_at hl 2 rfl) ?_
  refine va_put (D := D) (ci := 8) (v := .int (zI x2)) (ty := .int) (C := RX8) (T := TX8) (N := 10) hx hb hts (fun _ h => List.mem_cons_of_mem _ (List.mem_append_right _ h)) tyX8 tyX8_ok nmX8 hown hK hw.1 hw.2.1 hw.2.2 1 rfl rfl 1 (by decide) (hts (.fieldLink RX8 31 "EggThrones$Table" "toast" "I") (List.mem_of_getElem? (i := 2) rfl)) (fun _ h9 => h9) rfl (by decide +kernel) rfl rfl (Nat.le_of_ble_eq_true rfl) dX8_layPan_7 (fun H locs hP hD hS => ?_)
  have hw : Wd D A s (wE q cI cZ (sI σ2 3 x2)) H locs := wdiE_3 hP hD hS
  obtain ⟨σ7, e7, hf⟩ := nm_s hf
  replace hf := bt_s hf
  rw [← e7] at hw
  refine lv_aload_n hx hb dX8_layPan_10 rfl (lv_at hl 0 rfl) ?_
  refine lv_iload_n hx hb dX8_layPan_11 rfl (lv_at hl 3 rfl) ?_
  refine va_put (D := D) (ci := 8) (v := .int (zI x3)) (ty := .int) (C := RX8) (T := TX8) (N := 10) hx hb hts (fun _ h => List.mem_cons_of_mem _ (List.mem_append_right _ h)) tyX8 tyX8_ok nmX8 hown hK hw.1 hw.2.1 hw.2.2 1 rfl rfl 2 (by decide) (hts (.fieldLink RX8 34 "EggThrones$Table" "limit" "I") (List.mem_of_getElem? (i := 3) rfl)) (fun _ h9 => h9) rfl (by decide +kernel) rfl rfl (Nat.le_of_ble_eq_true rfl) dX8_layPan_12 (fun H locs hP hD hS => ?_)
  have hw : Wd D A s (wE q cI cZ (sI σ7 4 x3)) H locs := wdiE_4 hP hD hS
  obtain ⟨σ12, e12, hf⟩ := nm_s hf
  replace hf := bt_s hf
  rw [← e12] at hw
  cases hf
  exact hret H locs ls 15 dX8_layPan_15 hw
set_option maxHeartbeats 4000000 in
set_option maxRecDepth 100000 in
theorem tX8_layPan_c1 {l : Launch} {D : va_G} {A : Nat → Prop} {cI cZ : ClassId} {q : Nat → Nat} {σ : St} {x1 : Int} {x2 : Int} {x3 : Int} {τ : St} (hf : pX8_layPan_c1 σ x1 x2 x3 = some τ) : Met l yX8_layPan wsX8_layPan rmX8_layPan_c1 (va_Pc [.ref (q 1), .int (zI x1), .int (zI x2), .int (zI x3)] (CX D (TY cI cZ) A (wE q cI cZ σ))) (QV D (TY cI cZ) A (wE q cI cZ τ)) 0 0 A := by
  refine opn (cc := cX8_layPan) (maxL := 4) (ret := none) (by decide) rfl (Nat.le_of_ble_eq_true rfl) (fun p e s m below meth c C ls hw hl => ?_)
  have hl : lv_has ls 4 [(0, .ref (q 1)), (1, .int (zI x1)), (2, .int (zI x2)), (3, .int (zI x3))] := hl
  rw [pX8_layPan_c1] at hf
  exact wX8_layPan_c1_0 C (rtV C) σ x1 x2 x3 _ _ ls hw (lv_sub hl [0, 1, 2, 3] rfl) hf
abbrev rmX8_become_c1_c9 : Room := { frames := 1, cells := 0, slots := 0, locals := 60 }
set_option maxHeartbeats 4000000 in
set_option maxRecDepth 100000 in
theorem wX8_become_c1_c9_0 {p : Program} {l : Launch} {e : Env} {s : State} {m : MethodId} {args : Array Value} {below : List Frame} {meth : Method} {c : Code} {D : va_G} {A : Nat → Prop} {q : Nat → Nat} {cI cZ : ClassId} {Q : State → Prop} {τ : St} (C : Cx p s m args meth c D (TY cI cZ) cX8_become none 2 wsX8_become RX8) (hret : RtV p l e rmX8_become_c1_c9 s m args below meth c D A cX8_become Q (wE q cI cZ τ)) :
    ∀ (σ : St) (H : Heap) (locs : List Loc) (ls : Array Slot), Wd D A s (wE q cI cZ σ) H locs → lv_has ls 2 [(0, .ref (q 1)), (1, .ref (q 9))] → pX8_become_c1_c9_0 σ = some τ → W p l e rmX8_become_c1_c9 s m args below meth c H locs 0 0 Q (F0 m 0 ls []) := by
  obtain ⟨hx, hb, hr, hml, hown, hts, hlk, hK, hN⟩ := id C
  intro σ H locs ls hw hl hf
  rw [pX8_become_c1_c9_0] at hf
  refine lv_aload_n hx hb dX8_become_0 rfl (lv_at hl 0 rfl) ?_
  refine lv_aload_n hx hb dX8_become_1 rfl (lv_at hl 1 rfl) ?_
  refine va_get (D := D) (ci := 8) (v := .int (zI (σ.1 11))) (C := RX8) (T := TX8) (N := 10) hx hb hts (fun _ h => List.mem_cons_of_mem _ (List.mem_append_right _ h)) hown hK hw.1 9 rfl rfl 0 (by decide) (hts (.fieldLink RX8 27 "EggThrones$Table" "places" "I") (List.mem_of_getElem? (i := 1) rfl)) (fun _ h9 => h9) rfl dX8_become_2 ?_
  refine lv_aload_n hx hb dX8_become_5 rfl (lv_at hl 1 rfl) ?_
  refine va_get (D := D) (ci := 8) (v := .int (zI (σ.1 12))) (C := RX8) (T := TX8) (N := 10) hx hb hts (fun _ h => List.mem_cons_of_mem _ (List.mem_append_right _ h)) hown hK hw.1 9 rfl rfl 1 (by decide) (hts (.fieldLink RX8 31 "EggThrones$Table" "toast" "I") (List.mem_of_getElem? (i := 2) rfl)) (fun _ h9 => h9) rfl dX8_become_6 ?_
  refine lv_aload_n hx hb dX8_become_9 rfl (lv_at hl 1 rfl) ?_
  refine va_get (D := D) (ci := 8) (v := .int (zI (σ.1 13))) (C := RX8) (T := TX8) (N := 10) hx hb hts (fun _ h => List.mem_cons_of_mem _ (List.mem_append_right _ h)) hown hK hw.1 9 rfl rfl 2 (by decide) (hts (.fieldLink RX8 34 "EggThrones$Table" "limit" "I") (List.mem_of_getElem? (i := 3) rfl)) (fun _ h9 => h9) rfl dX8_become_10 ?_
  obtain ⟨σ13, h13, hf⟩ := bd_s hf
  replace hf := bt_s hf
  refine gVv (As := [.int (zI (σ.1 11)), .int (zI (σ.1 12)), .int (zI (σ.1 13))]) (rest := []) C hw (tX8_layPan_c1 h13) (cwV 3 hts gX8_become_X8_layPan rfl rfl rfl (by decide +kernel) ⟨Nat.le_of_ble_eq_true rfl, Nat.le_of_ble_eq_true rfl⟩) 8 1 rfl rfl rfl hl.1 rfl (Nat.le_of_ble_eq_true rfl) dX8_become_13 (fun H locs hw => ?_)
  refine lv_aload_n hx hb dX8_become_16 rfl (lv_at hl 0 rfl) ?_
  refine lv_aload_n hx hb dX8_become_17 rfl (lv_at hl 1 rfl) ?_
  refine va_get (D := D) (ci := 8) (v := .int (zI (σ13.1 14))) (C := RX8) (T := TX8) (N := 10) hx hb hts (fun _ h => List.mem_cons_of_mem _ (List.mem_append_right _ h)) hown hK hw.1 9 rfl rfl 3 (by decide) (hts (.fieldLink RX8 37 "EggThrones$Table" "eggs" "I") (List.mem_of_getElem? (i := 4) rfl)) (fun _ h9 => h9) rfl dX8_become_18 ?_
  refine va_put (D := D) (ci := 8) (v := .int (zI (σ13.1 14))) (ty := .int) (C := RX8) (T := TX8) (N := 10) hx hb hts (fun _ h => List.mem_cons_of_mem _ (List.mem_append_right _ h)) tyX8 tyX8_ok nmX8 hown hK hw.1 hw.2.1 hw.2.2 1 rfl rfl 3 (by decide) (hts (.fieldLink RX8 37 "EggThrones$Table" "eggs" "I") (List.mem_of_getElem? (i := 4) rfl)) (fun _ h9 => h9) rfl (by decide +kernel) rfl rfl (Nat.le_of_ble_eq_true rfl) dX8_become_21 (fun H locs hP hD hS => ?_)
  have hw : Wd D A s (wE q cI cZ (sI σ13 5 (σ13.1 14))) H locs := wdiE_5 hP hD hS
  obtain ⟨σ21, e21, hf⟩ := nm_s hf
  replace hf := bt_s hf
  rw [← e21] at hw
  refine lv_aload_n hx hb dX8_become_24 rfl (lv_at hl 0 rfl) ?_
  refine lv_aload_n hx hb dX8_become_25 rfl (lv_at hl 1 rfl) ?_
  refine va_get (D := D) (ci := 8) (v := .int (zI (σ21.1 15))) (C := RX8) (T := TX8) (N := 10) hx hb hts (fun _ h => List.mem_cons_of_mem _ (List.mem_append_right _ h)) hown hK hw.1 9 rfl rfl 4 (by decide) (hts (.fieldLink RX8 40 "EggThrones$Table" "eaters" "I") (List.mem_of_getElem? (i := 5) rfl)) (fun _ h9 => h9) rfl dX8_become_26 ?_
  refine va_put (D := D) (ci := 8) (v := .int (zI (σ21.1 15))) (ty := .int) (C := RX8) (T := TX8) (N := 10) hx hb hts (fun _ h => List.mem_cons_of_mem _ (List.mem_append_right _ h)) tyX8 tyX8_ok nmX8 hown hK hw.1 hw.2.1 hw.2.2 1 rfl rfl 4 (by decide) (hts (.fieldLink RX8 40 "EggThrones$Table" "eaters" "I") (List.mem_of_getElem? (i := 5) rfl)) (fun _ h9 => h9) rfl (by decide +kernel) rfl rfl (Nat.le_of_ble_eq_true rfl) dX8_become_29 (fun H locs hP hD hS => ?_)
  have hw : Wd D A s (wE q cI cZ (sI σ21 6 (σ21.1 15))) H locs := wdiE_6 hP hD hS
  obtain ⟨σ29, e29, hf⟩ := nm_s hf
  replace hf := bt_s hf
  rw [← e29] at hw
  refine lv_aload_n hx hb dX8_become_32 rfl (lv_at hl 1 rfl) ?_
  refine va_get (D := D) (ci := 8) (v := .ref (q 10)) (C := RX8) (T := TX8) (N := 10) hx hb hts (fun _ h => List.mem_cons_of_mem _ (List.mem_append_right _ h)) hown hK hw.1 9 rfl rfl 5 (by decide) (hts (.fieldLink RX8 9 "EggThrones$Table" "ages" "[I") (List.mem_of_getElem? (i := 6) rfl)) (fun _ h9 => h9) rfl dX8_become_33 ?_
  refine lv_iconst (v := zI 0) hx hb dX8_become_36 rfl ?_
  refine lv_aload_n hx hb dX8_become_37 rfl (lv_at hl 0 rfl) ?_
  refine va_get (D := D) (ci := 8) (v := .ref (q 2)) (C := RX8) (T := TX8) (N := 10) hx hb hts (fun _ h => List.mem_cons_of_mem _ (List.mem_append_right _ h)) hown hK hw.1 1 rfl rfl 5 (by decide) (hts (.fieldLink RX8 9 "EggThrones$Table" "ages" "[I") (List.mem_of_getElem? (i := 6) rfl)) (fun _ h9 => h9) rfl dX8_become_38 ?_
  refine lv_iconst (v := zI 0) hx hb dX8_become_41 rfl ?_
  refine lv_bipush (v := zI 7) hx hb dX8_become_42 (by decide +kernel) ?_
  refine zv_copyi (D := D) (rest := []) hx hb (hml.trans hl.1.symm) hown (hts (.methodLink RX8 47 arraycopyName) (List.mem_of_getElem? (i := 7) rfl)) (hts (.native arraycopyName) (List.mem_of_getElem? (i := 8) rfl)) (hts (.static arraycopyName) (List.mem_of_getElem? (i := 9) rfl)) (hts (.initialized "java/lang/System") (List.mem_of_getElem? (i := 10) rfl)) hK hw.1 hw.2.1 hw.2.2 10 2 0 0 rfl rfl rfl rfl (by decide) (by decide) (by decide) (Nat.le_of_ble_eq_true rfl) (Nat.le_of_ble_eq_true rfl) dX8_become_44 (fun H locs hP hD hS => ?_)
  have hw : Wd D A s (wE q cI cZ (sA σ29 0 (va_cpy (σ29.2 6) (σ29.2 0) 0 0 7))) H locs := wdaE_0 hP hD hS
  obtain ⟨σ44, e44, hf⟩ := nm_s hf
  replace hf := bt_s hf
  rw [← e44] at hw
  refine lv_aload_n hx hb dX8_become_47 rfl (lv_at hl 1 rfl) ?_
  refine va_get (D := D) (ci := 8) (v := .ref (q 11)) (C := RX8) (T := TX8) (N := 10) hx hb hts (fun _ h => List.mem_cons_of_mem _ (List.mem_append_right _ h)) hown hK hw.1 9 rfl rfl 6 (by decide) (hts (.fieldLink RX8 15 "EggThrones$Table" "sizes" "[I") (List.mem_of_getElem? (i := 11) rfl)) (fun _ h9 => h9) rfl dX8_become_48 ?_
  refine lv_iconst (v := zI 0) hx hb dX8_become_51 rfl ?_
  refine lv_aload_n hx hb dX8_become_52 rfl (lv_at hl 0 rfl) ?_
  refine va_get (D := D) (ci := 8) (v := .ref (q 3)) (C := RX8) (T := TX8) (N := 10) hx hb hts (fun _ h => List.mem_cons_of_mem _ (List.mem_append_right _ h)) hown hK hw.1 1 rfl rfl 6 (by decide) (hts (.fieldLink RX8 15 "EggThrones$Table" "sizes" "[I") (List.mem_of_getElem? (i := 11) rfl)) (fun _ h9 => h9) rfl dX8_become_53 ?_
  refine lv_iconst (v := zI 0) hx hb dX8_become_56 rfl ?_
  refine lv_bipush (v := zI 7) hx hb dX8_become_57 (by decide +kernel) ?_
  refine zv_copyi (D := D) (rest := []) hx hb (hml.trans hl.1.symm) hown (hts (.methodLink RX8 47 arraycopyName) (List.mem_of_getElem? (i := 7) rfl)) (hts (.native arraycopyName) (List.mem_of_getElem? (i := 8) rfl)) (hts (.static arraycopyName) (List.mem_of_getElem? (i := 9) rfl)) (hts (.initialized "java/lang/System") (List.mem_of_getElem? (i := 10) rfl)) hK hw.1 hw.2.1 hw.2.2 11 3 0 0 rfl rfl rfl rfl (by decide) (by decide) (by decide) (Nat.le_of_ble_eq_true rfl) (Nat.le_of_ble_eq_true rfl) dX8_become_59 (fun H locs hP hD hS => ?_)
  have hw : Wd D A s (wE q cI cZ (sA σ44 1 (va_cpy (σ44.2 7) (σ44.2 1) 0 0 7))) H locs := wdaE_1 hP hD hS
  obtain ⟨σ59, e59, hf⟩ := nm_s hf
  replace hf := bt_s hf
  rw [← e59] at hw
  refine lv_aload_n hx hb dX8_become_62 rfl (lv_at hl 1 rfl) ?_
  refine va_get (D := D) (ci := 8) (v := .ref (q 12)) (C := RX8) (T := TX8) (N := 10) hx hb hts (fun _ h => List.mem_cons_of_mem _ (List.mem_append_right _ h)) hown hK hw.1 9 rfl rfl 7 (by decide) (hts (.fieldLink RX8 18 "EggThrones$Table" "wishes" "[I") (List.mem_of_getElem? (i := 12) rfl)) (fun _ h9 => h9) rfl dX8_become_63 ?_
  refine lv_iconst (v := zI 0) hx hb dX8_become_66 rfl ?_
  refine lv_aload_n hx hb dX8_become_67 rfl (lv_at hl 0 rfl) ?_
  refine va_get (D := D) (ci := 8) (v := .ref (q 4)) (C := RX8) (T := TX8) (N := 10) hx hb hts (fun _ h => List.mem_cons_of_mem _ (List.mem_append_right _ h)) hown hK hw.1 1 rfl rfl 7 (by decide) (hts (.fieldLink RX8 18 "EggThrones$Table" "wishes" "[I") (List.mem_of_getElem? (i := 12) rfl)) (fun _ h9 => h9) rfl dX8_become_68 ?_
  refine lv_iconst (v := zI 0) hx hb dX8_become_71 rfl ?_
  refine lv_bipush (v := zI 7) hx hb dX8_become_72 (by decide +kernel) ?_
  refine zv_copyi (D := D) (rest := []) hx hb (hml.trans hl.1.symm) hown (hts (.methodLink RX8 47 arraycopyName) (List.mem_of_getElem? (i := 7) rfl)) (hts (.native arraycopyName) (List.mem_of_getElem? (i := 8) rfl)) (hts (.static arraycopyName) (List.mem_of_getElem? (i := 9) rfl)) (hts (.initialized "java/lang/System") (List.mem_of_getElem? (i := 10) rfl)) hK hw.1 hw.2.1 hw.2.2 12 4 0 0 rfl rfl rfl rfl (by decide) (by decide) (by decide) (Nat.le_of_ble_eq_true rfl) (Nat.le_of_ble_eq_true rfl) dX8_become_74 (fun H locs hP hD hS => ?_)
  have hw : Wd D A s (wE q cI cZ (sA σ59 2 (va_cpy (σ59.2 8) (σ59.2 2) 0 0 7))) H locs := wdaE_2 hP hD hS
  obtain ⟨σ74, e74, hf⟩ := nm_s hf
  replace hf := bt_s hf
  rw [← e74] at hw
  refine lv_aload_n hx hb dX8_become_77 rfl (lv_at hl 1 rfl) ?_
  refine va_get (D := D) (ci := 8) (v := .ref (q 13)) (C := RX8) (T := TX8) (N := 10) hx hb hts (fun _ h => List.mem_cons_of_mem _ (List.mem_append_right _ h)) hown hK hw.1 9 rfl rfl 8 (by decide) (hts (.fieldLink RX8 21 "EggThrones$Table" "softest" "[I") (List.mem_of_getElem? (i := 13) rfl)) (fun _ h9 => h9) rfl dX8_become_78 ?_
  refine lv_iconst (v := zI 0) hx hb dX8_become_81 rfl ?_
  refine lv_aload_n hx hb dX8_become_82 rfl (lv_at hl 0 rfl) ?_
  refine va_get (D := D) (ci := 8) (v := .ref (q 5)) (C := RX8) (T := TX8) (N := 10) hx hb hts (fun _ h => List.mem_cons_of_mem _ (List.mem_append_right _ h)) hown hK hw.1 1 rfl rfl 8 (by decide) (hts (.fieldLink RX8 21 "EggThrones$Table" "softest" "[I") (List.mem_of_getElem? (i := 13) rfl)) (fun _ h9 => h9) rfl dX8_become_83 ?_
  refine lv_iconst (v := zI 0) hx hb dX8_become_86 rfl ?_
  refine lv_iconst (v := zI 5) hx hb dX8_become_87 rfl ?_
  refine zv_copyi (D := D) (rest := []) hx hb (hml.trans hl.1.symm) hown (hts (.methodLink RX8 47 arraycopyName) (List.mem_of_getElem? (i := 7) rfl)) (hts (.native arraycopyName) (List.mem_of_getElem? (i := 8) rfl)) (hts (.static arraycopyName) (List.mem_of_getElem? (i := 9) rfl)) (hts (.initialized "java/lang/System") (List.mem_of_getElem? (i := 10) rfl)) hK hw.1 hw.2.1 hw.2.2 13 5 0 0 rfl rfl rfl rfl (by decide) (by decide) (by decide) (Nat.le_of_ble_eq_true rfl) (Nat.le_of_ble_eq_true rfl) dX8_become_88 (fun H locs hP hD hS => ?_)
  have hw : Wd D A s (wE q cI cZ (sA σ74 3 (va_cpy (σ74.2 9) (σ74.2 3) 0 0 5))) H locs := wdaE_3 hP hD hS
  obtain ⟨σ88, e88, hf⟩ := nm_s hf
  replace hf := bt_s hf
  rw [← e88] at hw
  refine lv_aload_n hx hb dX8_become_91 rfl (lv_at hl 1 rfl) ?_
  refine va_get (D := D) (ci := 8) (v := .ref (q 14)) (C := RX8) (T := TX8) (N := 10) hx hb hts (fun _ h => List.mem_cons_of_mem _ (List.mem_append_right _ h)) hown hK hw.1 9 rfl rfl 9 (by decide) (hts (.fieldLink RX8 24 "EggThrones$Table" "hardest" "[I") (List.mem_of_getElem? (i := 14) rfl)) (fun _ h9 => h9) rfl dX8_become_92 ?_
  refine lv_iconst (v := zI 0) hx hb dX8_become_95 rfl ?_
  refine lv_aload_n hx hb dX8_become_96 rfl (lv_at hl 0 rfl) ?_
  refine va_get (D := D) (ci := 8) (v := .ref (q 6)) (C := RX8) (T := TX8) (N := 10) hx hb hts (fun _ h => List.mem_cons_of_mem _ (List.mem_append_right _ h)) hown hK hw.1 1 rfl rfl 9 (by decide) (hts (.fieldLink RX8 24 "EggThrones$Table" "hardest" "[I") (List.mem_of_getElem? (i := 14) rfl)) (fun _ h9 => h9) rfl dX8_become_97 ?_
  refine lv_iconst (v := zI 0) hx hb dX8_become_100 rfl ?_
  refine lv_iconst (v := zI 5) hx hb dX8_become_101 rfl ?_
  refine zv_copyi (D := D) (rest := []) hx hb (hml.trans hl.1.symm) hown (hts (.methodLink RX8 47 arraycopyName) (List.mem_of_getElem? (i := 7) rfl)) (hts (.native arraycopyName) (List.mem_of_getElem? (i := 8) rfl)) (hts (.static arraycopyName) (List.mem_of_getElem? (i := 9) rfl)) (hts (.initialized "java/lang/System") (List.mem_of_getElem? (i := 10) rfl)) hK hw.1 hw.2.1 hw.2.2 14 6 0 0 rfl rfl rfl rfl (by decide) (by decide) (by decide) (Nat.le_of_ble_eq_true rfl) (Nat.le_of_ble_eq_true rfl) dX8_become_102 (fun H locs hP hD hS => ?_)
  have hw : Wd D A s (wE q cI cZ (sA σ88 4 (va_cpy (σ88.2 10) (σ88.2 4) 0 0 5))) H locs := wdaE_4 hP hD hS
  obtain ⟨σ102, e102, hf⟩ := nm_s hf
  replace hf := bt_s hf
  rw [← e102] at hw
  cases hf
  exact hret H locs ls 105 dX8_become_105 hw
set_option maxHeartbeats 4000000 in
set_option maxRecDepth 100000 in
theorem tX8_become_c1_c9 {l : Launch} {D : va_G} {A : Nat → Prop} {cI cZ : ClassId} {q : Nat → Nat} {σ : St} {τ : St} (hf : pX8_become_c1_c9 σ = some τ) : Met l yX8_become wsX8_become rmX8_become_c1_c9 (va_Pc [.ref (q 1), .ref (q 9)] (CX D (TY cI cZ) A (wE q cI cZ σ))) (QV D (TY cI cZ) A (wE q cI cZ τ)) 0 0 A := by
  refine opn (cc := cX8_become) (maxL := 2) (ret := none) (by decide) rfl (Nat.le_of_ble_eq_true rfl) (fun p e s m below meth c C ls hw hl => ?_)
  have hl : lv_has ls 2 [(0, .ref (q 1)), (1, .ref (q 9))] := hl
  rw [pX8_become_c1_c9] at hf
  exact wX8_become_c1_c9_0 C (rtV C) σ _ _ ls hw (lv_sub hl [0, 1] rfl) hf
abbrev rmX4_begin : Room := { frames := 0, cells := 0, slots := 0, locals := 0 }
set_option maxHeartbeats 4000000 in
set_option maxRecDepth 100000 in
theorem wX4_begin_2 {p : Program} {l : Launch} {e : Env} {s : State} {m : MethodId} {args : Array Value} {below : List Frame} {meth : Method} {c : Code} {D : va_G} {A : Nat → Prop} {q : Nat → Nat} {cI cZ : ClassId} {Q : State → Prop} {τ : St} (C : Cx p s m args meth c D (TY cI cZ) cX4_begin none 2 wsX4_begin RX4) (hret : RtV p l e rmX4_begin s m args below meth c D A cX4_begin Q (wE q cI cZ τ)) :
    ∀ (n : Nat) (σ : St) (x1 : Int) (H : Heap) (locs : List Loc) (ls : Array Slot), Wd D A s (wE q cI cZ σ) H locs → lv_has ls 2 [(0, .ref (q 15)), (1, .int (zI x1))] → pX4_begin_2 n σ x1 = some τ → W p l e rmX4_begin s m args below meth c H locs 0 0 Q (F0 m 2 ls []) := by
  obtain ⟨hx, hb, hr, hml, hown, hts, hlk, hK, hN⟩ := id C
  intro n
  induction n with
  | zero =>
    intro σ x1 H locs ls hw hl hf
    exact absurd (show (none : Option (St)) = some τ from hf) (by simp)
  | succ n ih =>
    intro σ x1 H locs ls hw hl hf
    rw [pX4_begin_2] at hf
    refine lv_iload_n hx hb dX4_begin_2 rfl (lv_at hl 1 rfl) ?_
    refine lv_bipush (v := zI 7) hx hb dX4_begin_3 (by decide +kernel) ?_
    obtain ⟨hg5, hf⟩ := gd_s hf
    refine zv_icmp_ge (tgt := 28) hx hb ⟨hg5, by decide⟩ dX4_begin_5 (by decide) (fun (c5 : 7 ≤ x1) => ?_) (fun (c5 : ¬ (7 ≤ x1)) => ?_)
    · rw [if_pos c5] at hf
      refine lv_aload_n hx hb dX4_begin_28 rfl (lv_at hl 0 rfl) ?_
      refine lv_iconst (v := zI (-1)) hx hb dX4_begin_29 rfl ?_
      refine va_put (D := D) (ci := 4) (v := .int (zI (-1))) (ty := .int) (C := RX4) (T := TX4) (N := 9) hx hb hts (fun _ h => List.mem_cons_of_mem _ (List.mem_append_left _ (List.mem_append_right _ h))) tyX4 tyX4_ok nmX4 hown hK hw.1 hw.2.1 hw.2.2 15 rfl rfl 3 (by decide) (hts (.fieldLink RX4 22 "EggThrones$Morning" "king" "I") (List.mem_of_getElem? (i := 3) rfl)) (fun _ h9 => h9) rfl (by decide +kernel) rfl rfl (Nat.le_of_ble_eq_true rfl) dX4_begin_30 (fun H locs hP hD hS => ?_)
      have hw : Wd D A s (wE q cI cZ (sI σ 16 (-1))) H locs := wdiE_16 hP hD hS
      obtain ⟨σ30, e30, hf⟩ := nm_s hf
      replace hf := bt_s hf
      rw [← e30] at hw
      refine lv_aload_n hx hb dX4_begin_33 rfl (lv_at hl 0 rfl) ?_
      refine lv_iconst (v := zI 0) hx hb dX4_begin_34 rfl ?_
      refine va_put (D := D) (ci := 4) (v := .int (zI 0)) (ty := .int) (C := RX4) (T := TX4) (N := 9) hx hb hts (fun _ h => List.mem_cons_of_mem _ (List.mem_append_left _ (List.mem_append_right _ h))) tyX4 tyX4_ok nmX4 hown hK hw.1 hw.2.1 hw.2.2 15 rfl rfl 4 (by decide) (hts (.fieldLink RX4 26 "EggThrones$Morning" "left" "I") (List.mem_of_getElem? (i := 4) rfl)) (fun _ h9 => h9) rfl (by decide +kernel) rfl rfl (Nat.le_of_ble_eq_true rfl) dX4_begin_35 (fun H locs hP hD hS => ?_)
      have hw : Wd D A s (wE q cI cZ (sI σ30 17 0)) H locs := wdiE_17 hP hD hS
      obtain ⟨σ35, e35, hf⟩ := nm_s hf
      replace hf := bt_s hf
      rw [← e35] at hw
      refine lv_aload_n hx hb dX4_begin_38 rfl (lv_at hl 0 rfl) ?_
      refine lv_aload_n hx hb dX4_begin_39 rfl (lv_at hl 0 rfl) ?_
      refine va_get (D := D) (ci := 4) (v := .ref (q 1)) (C := RX4) (T := TX4) (N := 9) hx hb hts (fun _ h => List.mem_cons_of_mem _ (List.mem_append_left _ (List.mem_append_right _ h))) hown hK hw.1 15 rfl rfl 0 (by decide) (hts (.fieldLink RX4 9 "EggThrones$Morning" "table" "LEggThrones$Table;") (List.mem_of_getElem? (i := 5) rfl)) (fun _ h9 => h9) rfl dX4_begin_40 ?_
      refine va_getN (D := D) (ci := 8) (v := .int (zI (σ35.1 3))) (C := RX8) (T := TX8) (N := 10) hx hb hts (fun _ h => List.mem_cons_of_mem _ (List.mem_append_right _ h)) hown hK hw.1 1 rfl rfl 1 (by decide) (va_Nw.use rfl (hN (.fieldLinkNest "EggThrones$Morning" 41 "EggThrones$Table" "toast" "I" "EggThrones") (by decide +kernel))) (fun _ h9 => h9) rfl dX4_begin_43 ?_
      refine va_put (D := D) (ci := 4) (v := .int (zI (σ35.1 3))) (ty := .int) (C := RX4) (T := TX4) (N := 9) hx hb hts (fun _ h => List.mem_cons_of_mem _ (List.mem_append_left _ (List.mem_append_right _ h))) tyX4 tyX4_ok nmX4 hown hK hw.1 hw.2.1 hw.2.2 15 rfl rfl 5 (by decide) (hts (.fieldLink RX4 29 "EggThrones$Morning" "soldiers" "I") (List.mem_of_getElem? (i := 6) rfl)) (fun _ h9 => h9) rfl (by decide +kernel) rfl rfl (Nat.le_of_ble_eq_true rfl) dX4_begin_46 (fun H locs hP hD hS => ?_)
      have hw : Wd D A s (wE q cI cZ (sI σ35 18 (σ35.1 3))) H locs := wdiE_18 hP hD hS
      obtain ⟨σ46, e46, hf⟩ := nm_s hf
      replace hf := bt_s hf
      rw [← e46] at hw
      refine lv_aload_n hx hb dX4_begin_49 rfl (lv_at hl 0 rfl) ?_
      refine lv_iconst (v := zI 0) hx hb dX4_begin_50 rfl ?_
      refine va_put (D := D) (ci := 4) (v := .int (zI 0)) (ty := .int) (C := RX4) (T := TX4) (N := 9) hx hb hts (fun _ h => List.mem_cons_of_mem _ (List.mem_append_left _ (List.mem_append_right _ h))) tyX4 tyX4_ok nmX4 hown hK hw.1 hw.2.1 hw.2.2 15 rfl rfl 6 (by decide) (hts (.fieldLink RX4 32 "EggThrones$Morning" "minutes" "I") (List.mem_of_getElem? (i := 7) rfl)) (fun _ h9 => h9) rfl (by decide +kernel) rfl rfl (Nat.le_of_ble_eq_true rfl) dX4_begin_51 (fun H locs hP hD hS => ?_)
      have hw : Wd D A s (wE q cI cZ (sI σ46 19 0)) H locs := wdiE_19 hP hD hS
      obtain ⟨σ51, e51, hf⟩ := nm_s hf
      replace hf := bt_s hf
      rw [← e51] at hw
      refine lv_aload_n hx hb dX4_begin_54 rfl (lv_at hl 0 rfl) ?_
      refine lv_iconst (v := zI 0) hx hb dX4_begin_55 rfl ?_
      refine va_put (D := D) (ci := 4) (v := .int (zI 0)) (ty := .int) (C := RX4) (T := TX4) (N := 9) hx hb hts (fun _ h => List.mem_cons_of_mem _ (List.mem_append_left _ (List.mem_append_right _ h))) tyX4 tyX4_ok nmX4 hown hK hw.1 hw.2.1 hw.2.2 15 rfl rfl 7 (by decide) (hts (.fieldLink RX4 35 "EggThrones$Morning" "reigned" "I") (List.mem_of_getElem? (i := 8) rfl)) (fun _ h9 => h9) rfl (by decide +kernel) rfl rfl (Nat.le_of_ble_eq_true rfl) dX4_begin_56 (fun H locs hP hD hS => ?_)
      have hw : Wd D A s (wE q cI cZ (sI σ51 20 0)) H locs := wdiE_20 hP hD hS
      obtain ⟨σ56, e56, hf⟩ := nm_s hf
      replace hf := bt_s hf
      rw [← e56] at hw
      refine lv_aload_n hx hb dX4_begin_59 rfl (lv_at hl 0 rfl) ?_
      refine lv_iconst (v := zI 0) hx hb dX4_begin_60 rfl ?_
      refine va_put (D := D) (ci := 4) (v := .int (zI 0)) (ty := .int) (C := RX4) (T := TX4) (N := 9) hx hb hts (fun _ h => List.mem_cons_of_mem _ (List.mem_append_left _ (List.mem_append_right _ h))) tyX4 tyX4_ok nmX4 hown hK hw.1 hw.2.1 hw.2.2 15 rfl rfl 8 (by decide) (hts (.fieldLink RX4 38 "EggThrones$Morning" "scraped" "I") (List.mem_of_getElem? (i := 9) rfl)) (fun _ h9 => h9) rfl (by decide +kernel) rfl rfl (Nat.le_of_ble_eq_true rfl) dX4_begin_61 (fun H locs hP hD hS => ?_)
      have hw : Wd D A s (wE q cI cZ (sI σ56 21 0)) H locs := wdiE_21 hP hD hS
      obtain ⟨σ61, e61, hf⟩ := nm_s hf
      replace hf := bt_s hf
      rw [← e61] at hw
      cases hf
      exact hret H locs ls 64 dX4_begin_64 hw
    · rw [if_neg c5] at hf
      refine lv_aload_n hx hb dX4_begin_8 rfl (lv_at hl 0 rfl) ?_
      refine va_get (D := D) (ci := 4) (v := .ref (q 16)) (C := RX4) (T := TX4) (N := 9) hx hb hts (fun _ h => List.mem_cons_of_mem _ (List.mem_append_left _ (List.mem_append_right _ h))) hown hK hw.1 15 rfl rfl 1 (by decide) (hts (.fieldLink RX4 15 "EggThrones$Morning" "states" "[I") (List.mem_of_getElem? (i := 1) rfl)) (fun _ h9 => h9) rfl dX4_begin_9 ?_
      refine lv_iload_n hx hb dX4_begin_12 rfl (lv_at hl 1 rfl) ?_
      refine lv_iconst (v := zI 0) hx hb dX4_begin_13 rfl ?_
      obtain ⟨hi14, hf⟩ := gd_s hf
      refine zv_iast (D := D) hx hb hK hw.1 hw.2.1 hw.2.2 16 0 rfl rfl hi14 (by decide) dX4_begin_14 (fun H locs hP hD hS => ?_)
      have hw : Wd D A s (wE q cI cZ (sA σ 11 (va_up (σ.2 11) (Int.toNat x1) 0))) H locs := wdaE_11 hP hD hS
      obtain ⟨σ14, e14, hf⟩ := nm_s hf
      replace hf := bt_s hf
      rw [← e14] at hw
      refine lv_aload_n hx hb dX4_begin_15 rfl (lv_at hl 0 rfl) ?_
      refine va_get (D := D) (ci := 4) (v := .ref (q 17)) (C := RX4) (T := TX4) (N := 9) hx hb hts (fun _ h => List.mem_cons_of_mem _ (List.mem_append_left _ (List.mem_append_right _ h))) hown hK hw.1 15 rfl rfl 2 (by decide) (hts (.fieldLink RX4 19 "EggThrones$Morning" "boiled" "[I") (List.mem_of_getElem? (i := 2) rfl)) (fun _ h9 => h9) rfl dX4_begin_16 ?_
      refine lv_iload_n hx hb dX4_begin_19 rfl (lv_at hl 1 rfl) ?_
      refine lv_iconst (v := zI 0) hx hb dX4_begin_20 rfl ?_
      obtain ⟨hi21, hf⟩ := gd_s hf
      refine zv_iast (D := D) hx hb hK hw.1 hw.2.1 hw.2.2 17 0 rfl rfl hi21 (by decide) dX4_begin_21 (fun H locs hP hD hS => ?_)
      have hw : Wd D A s (wE q cI cZ (sA σ14 12 (va_up (σ14.2 12) (Int.toNat x1) 0))) H locs := wdaE_12 hP hD hS
      obtain ⟨σ21, e21, hf⟩ := nm_s hf
      replace hf := bt_s hf
      rw [← e21] at hw
      refine lv_iinc (v := zI (x1 + 1)) (lv' := [(1, .int (zI (x1 + 1))), (0, .ref (q 15))]) hx hb dX4_begin_22 hl (k := 1) rfl (zI_add _ _) (by decide) rfl (fun ls hl => ?_)
      refine lv_goto (tgt := 2) hx hb dX4_begin_25 (by decide) ?_
      exact ih σ21 (x1 + 1) H locs ls hw (lv_sub hl [1, 0] rfl) hf
set_option maxHeartbeats 4000000 in
set_option maxRecDepth 100000 in
theorem wX4_begin_0 {p : Program} {l : Launch} {e : Env} {s : State} {m : MethodId} {args : Array Value} {below : List Frame} {meth : Method} {c : Code} {D : va_G} {A : Nat → Prop} {q : Nat → Nat} {cI cZ : ClassId} {Q : State → Prop} {τ : St} (C : Cx p s m args meth c D (TY cI cZ) cX4_begin none 2 wsX4_begin RX4) (hret : RtV p l e rmX4_begin s m args below meth c D A cX4_begin Q (wE q cI cZ τ)) :
    ∀ (σ : St) (H : Heap) (locs : List Loc) (ls : Array Slot), Wd D A s (wE q cI cZ σ) H locs → lv_has ls 2 [(0, .ref (q 15))] → pX4_begin_0 σ = some τ → W p l e rmX4_begin s m args below meth c H locs 0 0 Q (F0 m 0 ls []) := by
  obtain ⟨hx, hb, hr, hml, hown, hts, hlk, hK, hN⟩ := id C
  intro σ H locs ls hw hl hf
  rw [pX4_begin_0] at hf
  refine lv_iconst (v := zI 0) hx hb dX4_begin_0 rfl ?_
  refine lv_istore_n (lv' := [(1, .int (zI 0)), (0, .ref (q 15))]) hx hb dX4_begin_1 rfl hl (by decide) rfl (fun ls hl => ?_)
  exact wX4_begin_2 C hret FU σ 0 H locs ls hw (lv_sub hl [1, 0] rfl) hf
set_option maxHeartbeats 4000000 in
set_option maxRecDepth 100000 in
theorem tX4_begin {l : Launch} {D : va_G} {A : Nat → Prop} {cI cZ : ClassId} {q : Nat → Nat} {σ : St} {τ : St} (hf : pX4_begin σ = some τ) : Met l yX4_begin wsX4_begin rmX4_begin (va_Pc [.ref (q 15)] (CX D (TY cI cZ) A (wE q cI cZ σ))) (QV D (TY cI cZ) A (wE q cI cZ τ)) 0 0 A := by
  refine opn (cc := cX4_begin) (maxL := 2) (ret := none) (by decide) rfl (Nat.le_of_ble_eq_true rfl) (fun p e s m below meth c C ls hw hl => ?_)
  have hl : lv_has ls 2 [(0, .ref (q 15))] := hl
  rw [pX4_begin] at hf
  exact wX4_begin_0 C (rtV C) σ _ _ ls hw (lv_sub hl [0] rfl) hf
abbrev rmX5_forget : Room := { frames := 0, cells := 0, slots := 0, locals := 0 }
set_option maxHeartbeats 4000000 in
set_option maxRecDepth 100000 in
theorem wX5_forget_0 {p : Program} {l : Launch} {e : Env} {s : State} {m : MethodId} {args : Array Value} {below : List Frame} {meth : Method} {c : Code} {D : va_G} {A : Nat → Prop} {q : Nat → Nat} {cI cZ : ClassId} {Q : State → Prop} {τ : St} (C : Cx p s m args meth c D (TY cI cZ) cX5_forget none 1 wsX5_forget RX5) (hret : RtV p l e rmX5_forget s m args below meth c D A cX5_forget Q (wE q cI cZ τ)) :
    ∀ (σ : St) (H : Heap) (locs : List Loc) (ls : Array Slot), Wd D A s (wE q cI cZ σ) H locs → lv_has ls 1 [(0, .ref (q 18))] → pX5_forget_0 σ = some τ → W p l e rmX5_forget s m args below meth c H locs 0 0 Q (F0 m 0 ls []) := by
  obtain ⟨hx, hb, hr, hml, hown, hts, hlk, hK, hN⟩ := id C
  intro σ H locs ls hw hl hf
  rw [pX5_forget_0] at hf
  refine lv_aload_n hx hb dX5_forget_0 rfl (lv_at hl 0 rfl) ?_
  refine lv_iconst (v := zI 0) hx hb dX5_forget_1 rfl ?_
  refine va_put (D := D) (ci := 5) (v := .int (zI 0)) (ty := .int) (C := RX5) (T := TX5) (N := 3) hx hb hts (fun _ h => List.mem_cons_of_mem _ (List.mem_append_right _ h)) tyX5 tyX5_ok nmX5 hown hK hw.1 hw.2.1 hw.2.2 18 rfl rfl 1 (by decide) (hts (.fieldLink RX5 17 "EggThrones$Past" "oldest" "I") (List.mem_of_getElem? (i := 1) rfl)) (fun _ h9 => h9) rfl (by decide +kernel) rfl rfl (Nat.le_of_ble_eq_true rfl) dX5_forget_2 (fun H locs hP hD hS => ?_)
  have hw : Wd D A s (wE q cI cZ (sI σ 22 0)) H locs := wdiE_22 hP hD hS
  obtain ⟨σ2, e2, hf⟩ := nm_s hf
  replace hf := bt_s hf
  rw [← e2] at hw
  refine lv_aload_n hx hb dX5_forget_5 rfl (lv_at hl 0 rfl) ?_
  refine lv_iconst (v := zI 0) hx hb dX5_forget_6 rfl ?_
  refine va_put (D := D) (ci := 5) (v := .int (zI 0)) (ty := .int) (C := RX5) (T := TX5) (N := 3) hx hb hts (fun _ h => List.mem_cons_of_mem _ (List.mem_append_right _ h)) tyX5 tyX5_ok nmX5 hown hK hw.1 hw.2.1 hw.2.2 18 rfl rfl 2 (by decide) (hts (.fieldLink RX5 21 "EggThrones$Past" "count" "I") (List.mem_of_getElem? (i := 2) rfl)) (fun _ h9 => h9) rfl (by decide +kernel) rfl rfl (Nat.le_of_ble_eq_true rfl) dX5_forget_7 (fun H locs hP hD hS => ?_)
  have hw : Wd D A s (wE q cI cZ (sI σ2 23 0)) H locs := wdiE_23 hP hD hS
  obtain ⟨σ7, e7, hf⟩ := nm_s hf
  replace hf := bt_s hf
  rw [← e7] at hw
  cases hf
  exact hret H locs ls 10 dX5_forget_10 hw
set_option maxHeartbeats 4000000 in
set_option maxRecDepth 100000 in
theorem tX5_forget {l : Launch} {D : va_G} {A : Nat → Prop} {cI cZ : ClassId} {q : Nat → Nat} {σ : St} {τ : St} (hf : pX5_forget σ = some τ) : Met l yX5_forget wsX5_forget rmX5_forget (va_Pc [.ref (q 18)] (CX D (TY cI cZ) A (wE q cI cZ σ))) (QV D (TY cI cZ) A (wE q cI cZ τ)) 0 0 A := by
  refine opn (cc := cX5_forget) (maxL := 1) (ret := none) (by decide) rfl (Nat.le_of_ble_eq_true rfl) (fun p e s m below meth c C ls hw hl => ?_)
  have hl : lv_has ls 1 [(0, .ref (q 18))] := hl
  rw [pX5_forget] at hf
  exact wX5_forget_0 C (rtV C) σ _ _ ls hw (lv_sub hl [0] rfl) hf
abbrev rmX3_forget : Room := { frames := 0, cells := 0, slots := 0, locals := 0 }
set_option maxHeartbeats 4000000 in
set_option maxRecDepth 100000 in
theorem wX3_forget_2 {p : Program} {l : Launch} {e : Env} {s : State} {m : MethodId} {args : Array Value} {below : List Frame} {meth : Method} {c : Code} {D : va_G} {A : Nat → Prop} {q : Nat → Nat} {cI cZ : ClassId} {Q : State → Prop} {τ : St} (C : Cx p s m args meth c D (TY cI cZ) cX3_forget none 2 wsX3_forget RX3) (hret : RtV p l e rmX3_forget s m args below meth c D A cX3_forget Q (wE q cI cZ τ)) :
    ∀ (n : Nat) (σ : St) (x1 : Int) (H : Heap) (locs : List Loc) (ls : Array Slot), Wd D A s (wE q cI cZ σ) H locs → lv_has ls 2 [(0, .ref (q 20)), (1, .int (zI x1))] → pX3_forget_2 n σ x1 = some τ → W p l e rmX3_forget s m args below meth c H locs 0 0 Q (F0 m 2 ls []) := by
  obtain ⟨hx, hb, hr, hml, hown, hts, hlk, hK, hN⟩ := id C
  intro n
  induction n with
  | zero =>
    intro σ x1 H locs ls hw hl hf
    exact absurd (show (none : Option (St)) = some τ from hf) (by simp)
  | succ n ih =>
    intro σ x1 H locs ls hw hl hf
    rw [pX3_forget_2] at hf
    refine lv_iload_n hx hb dX3_forget_2 rfl (lv_at hl 1 rfl) ?_
    refine lv_iconst (v := zI 2) hx hb dX3_forget_3 rfl ?_
    obtain ⟨hg4, hf⟩ := gd_s hf
    refine zv_icmp_ge (tgt := 20) hx hb ⟨hg4, by decide⟩ dX3_forget_4 (by decide) (fun (c4 : 2 ≤ x1) => ?_) (fun (c4 : ¬ (2 ≤ x1)) => ?_)
    · rw [if_pos c4] at hf
      cases hf
      exact hret H locs ls 20 dX3_forget_20 hw
    · rw [if_neg c4] at hf
      refine lv_aload_n hx hb dX3_forget_7 rfl (lv_at hl 0 rfl) ?_
      refine va_get (D := D) (ci := 3) (v := .ref (q 23)) (C := RX3) (T := TX3) (N := 3) hx hb hts (fun _ h => List.mem_cons_of_mem _ (List.mem_append_right _ h)) hown hK hw.1 20 rfl rfl 2 (by decide) (hts (.fieldLink RX3 20 "EggThrones$Images" "taken" "[Z") (List.mem_of_getElem? (i := 1) rfl)) (fun _ h9 => h9) rfl dX3_forget_8 ?_
      refine lv_iload_n hx hb dX3_forget_11 rfl (lv_at hl 1 rfl) ?_
      refine lv_iconst (v := zI 0) hx hb dX3_forget_12 rfl ?_
      obtain ⟨hi13, hf⟩ := gd_s hf
      refine zv_zast (D := D) hx hb hK hw.1 hw.2.1 hw.2.2 23 1 rfl rfl hi13 (by decide) (by decide) dX3_forget_13 (fun H locs hP hD hS => ?_)
      have hw : Wd D A s (wE q cI cZ (sA σ 16 (va_up (σ.2 16) (Int.toNat x1) 0))) H locs := wdaE_16 hP hD hS
      obtain ⟨σ13, e13, hf⟩ := nm_s hf
      replace hf := bt_s hf
      rw [← e13] at hw
      refine lv_iinc (v := zI (x1 + 1)) (lv' := [(1, .int (zI (x1 + 1))), (0, .ref (q 20))]) hx hb dX3_forget_14 hl (k := 1) rfl (zI_add _ _) (by decide) rfl (fun ls hl => ?_)
      refine lv_goto (tgt := 2) hx hb dX3_forget_17 (by decide) ?_
      exact ih σ13 (x1 + 1) H locs ls hw (lv_sub hl [1, 0] rfl) hf
set_option maxHeartbeats 4000000 in
set_option maxRecDepth 100000 in
theorem wX3_forget_0 {p : Program} {l : Launch} {e : Env} {s : State} {m : MethodId} {args : Array Value} {below : List Frame} {meth : Method} {c : Code} {D : va_G} {A : Nat → Prop} {q : Nat → Nat} {cI cZ : ClassId} {Q : State → Prop} {τ : St} (C : Cx p s m args meth c D (TY cI cZ) cX3_forget none 2 wsX3_forget RX3) (hret : RtV p l e rmX3_forget s m args below meth c D A cX3_forget Q (wE q cI cZ τ)) :
    ∀ (σ : St) (H : Heap) (locs : List Loc) (ls : Array Slot), Wd D A s (wE q cI cZ σ) H locs → lv_has ls 2 [(0, .ref (q 20))] → pX3_forget_0 σ = some τ → W p l e rmX3_forget s m args below meth c H locs 0 0 Q (F0 m 0 ls []) := by
  obtain ⟨hx, hb, hr, hml, hown, hts, hlk, hK, hN⟩ := id C
  intro σ H locs ls hw hl hf
  rw [pX3_forget_0] at hf
  refine lv_iconst (v := zI 0) hx hb dX3_forget_0 rfl ?_
  refine lv_istore_n (lv' := [(1, .int (zI 0)), (0, .ref (q 20))]) hx hb dX3_forget_1 rfl hl (by decide) rfl (fun ls hl => ?_)
  exact wX3_forget_2 C hret FU σ 0 H locs ls hw (lv_sub hl [1, 0] rfl) hf
set_option maxHeartbeats 4000000 in
set_option maxRecDepth 100000 in
theorem tX3_forget {l : Launch} {D : va_G} {A : Nat → Prop} {cI cZ : ClassId} {q : Nat → Nat} {σ : St} {τ : St} (hf : pX3_forget σ = some τ) : Met l yX3_forget wsX3_forget rmX3_forget (va_Pc [.ref (q 20)] (CX D (TY cI cZ) A (wE q cI cZ σ))) (QV D (TY cI cZ) A (wE q cI cZ τ)) 0 0 A := by
  refine opn (cc := cX3_forget) (maxL := 2) (ret := none) (by decide) rfl (Nat.le_of_ble_eq_true rfl) (fun p e s m below meth c C ls hw hl => ?_)
  have hl : lv_has ls 2 [(0, .ref (q 20))] := hl
  rw [pX3_forget] at hf
  exact wX3_forget_0 C (rtV C) σ _ _ ls hw (lv_sub hl [0] rfl) hf
abbrev rmX2_forget : Room := { frames := 0, cells := 0, slots := 0, locals := 0 }
set_option maxHeartbeats 4000000 in
set_option maxRecDepth 100000 in
theorem wX2_forget_0 {p : Program} {l : Launch} {e : Env} {s : State} {m : MethodId} {args : Array Value} {below : List Frame} {meth : Method} {c : Code} {D : va_G} {A : Nat → Prop} {q : Nat → Nat} {cI cZ : ClassId} {Q : State → Prop} {τ : St} (C : Cx p s m args meth c D (TY cI cZ) cX2_forget none 1 wsX2_forget RX2) (hret : RtV p l e rmX2_forget s m args below meth c D A cX2_forget Q (wE q cI cZ τ)) :
    ∀ (σ : St) (H : Heap) (locs : List Loc) (ls : Array Slot), Wd D A s (wE q cI cZ σ) H locs → lv_has ls 1 [(0, .ref (q 24))] → pX2_forget_0 σ = some τ → W p l e rmX2_forget s m args below meth c H locs 0 0 Q (F0 m 0 ls []) := by
  obtain ⟨hx, hb, hr, hml, hown, hts, hlk, hK, hN⟩ := id C
  intro σ H locs ls hw hl hf
  rw [pX2_forget_0] at hf
  refine lv_aload_n hx hb dX2_forget_0 rfl (lv_at hl 0 rfl) ?_
  refine lv_iconst (v := zI 0) hx hb dX2_forget_1 rfl ?_
  refine va_put (D := D) (ci := 2) (v := .int (zI 0)) (ty := .int) (C := RX2) (T := TX2) (N := 3) hx hb hts (fun _ h => List.mem_cons_of_mem _ (List.mem_append_right _ h)) tyX2 tyX2_ok nmX2 hown hK hw.1 hw.2.1 hw.2.2 24 rfl rfl 2 (by decide) (hts (.fieldLink RX2 18 "EggThrones$Clues" "count" "I") (List.mem_of_getElem? (i := 1) rfl)) (fun _ h9 => h9) rfl (by decide +kernel) rfl rfl (Nat.le_of_ble_eq_true rfl) dX2_forget_2 (fun H locs hP hD hS => ?_)
  have hw : Wd D A s (wE q cI cZ (sI σ 24 0)) H locs := wdiE_24 hP hD hS
  obtain ⟨σ2, e2, hf⟩ := nm_s hf
  replace hf := bt_s hf
  rw [← e2] at hw
  cases hf
  exact hret H locs ls 5 dX2_forget_5 hw
set_option maxHeartbeats 4000000 in
set_option maxRecDepth 100000 in
theorem tX2_forget {l : Launch} {D : va_G} {A : Nat → Prop} {cI cZ : ClassId} {q : Nat → Nat} {σ : St} {τ : St} (hf : pX2_forget σ = some τ) : Met l yX2_forget wsX2_forget rmX2_forget (va_Pc [.ref (q 24)] (CX D (TY cI cZ) A (wE q cI cZ σ))) (QV D (TY cI cZ) A (wE q cI cZ τ)) 0 0 A := by
  refine opn (cc := cX2_forget) (maxL := 1) (ret := none) (by decide) rfl (Nat.le_of_ble_eq_true rfl) (fun p e s m below meth c C ls hw hl => ?_)
  have hl : lv_has ls 1 [(0, .ref (q 24))] := hl
  rw [pX2_forget] at hf
  exact wX2_forget_0 C (rtV C) σ _ _ ls hw (lv_sub hl [0] rfl) hf
abbrev rmX1_forget : Room := { frames := 0, cells := 0, slots := 0, locals := 0 }
set_option maxHeartbeats 4000000 in
set_option maxRecDepth 100000 in
theorem wX1_forget_0 {p : Program} {l : Launch} {e : Env} {s : State} {m : MethodId} {args : Array Value} {below : List Frame} {meth : Method} {c : Code} {D : va_G} {A : Nat → Prop} {q : Nat → Nat} {cI cZ : ClassId} {Q : State → Prop} {τ : St} (C : Cx p s m args meth c D (TY cI cZ) cX1_forget none 1 wsX1_forget RX1) (hret : RtV p l e rmX1_forget s m args below meth c D A cX1_forget Q (wE q cI cZ τ)) :
    ∀ (σ : St) (H : Heap) (locs : List Loc) (ls : Array Slot), Wd D A s (wE q cI cZ σ) H locs → lv_has ls 1 [(0, .ref (q 27))] → pX1_forget_0 σ = some τ → W p l e rmX1_forget s m args below meth c H locs 0 0 Q (F0 m 0 ls []) := by
  obtain ⟨hx, hb, hr, hml, hown, hts, hlk, hK, hN⟩ := id C
  intro σ H locs ls hw hl hf
  rw [pX1_forget_0] at hf
  refine lv_aload_n hx hb dX1_forget_0 rfl (lv_at hl 0 rfl) ?_
  refine lv_iconst (v := zI 0) hx hb dX1_forget_1 rfl ?_
  refine va_put (D := D) (ci := 1) (v := .int (zI 0)) (ty := .int) (C := RX1) (T := TX1) (N := 3) hx hb hts (fun _ h => List.mem_cons_of_mem _ (List.mem_append_right _ h)) tyX1 tyX1_ok nmX1 hown hK hw.1 hw.2.1 hw.2.2 27 rfl rfl 2 (by decide) (hts (.fieldLink RX1 18 "EggThrones$Book" "count" "I") (List.mem_of_getElem? (i := 1) rfl)) (fun _ h9 => h9) rfl (by decide +kernel) rfl rfl (Nat.le_of_ble_eq_true rfl) dX1_forget_2 (fun H locs hP hD hS => ?_)
  have hw : Wd D A s (wE q cI cZ (sI σ 25 0)) H locs := wdiE_25 hP hD hS
  obtain ⟨σ2, e2, hf⟩ := nm_s hf
  replace hf := bt_s hf
  rw [← e2] at hw
  cases hf
  exact hret H locs ls 5 dX1_forget_5 hw
set_option maxHeartbeats 4000000 in
set_option maxRecDepth 100000 in
theorem tX1_forget {l : Launch} {D : va_G} {A : Nat → Prop} {cI cZ : ClassId} {q : Nat → Nat} {σ : St} {τ : St} (hf : pX1_forget σ = some τ) : Met l yX1_forget wsX1_forget rmX1_forget (va_Pc [.ref (q 27)] (CX D (TY cI cZ) A (wE q cI cZ σ))) (QV D (TY cI cZ) A (wE q cI cZ τ)) 0 0 A := by
  refine opn (cc := cX1_forget) (maxL := 1) (ret := none) (by decide) rfl (Nat.le_of_ble_eq_true rfl) (fun p e s m below meth c C ls hw hl => ?_)
  have hl : lv_has ls 1 [(0, .ref (q 27))] := hl
  rw [pX1_forget] at hf
  exact wX1_forget_0 C (rtV C) σ _ _ ls hw (lv_sub hl [0] rfl) hf
abbrev rmX10_table : Room := { frames := 6, cells := 0, slots := 0, locals := 135 }
set_option maxHeartbeats 4000000 in
set_option maxRecDepth 100000 in
theorem wX10_table_0 {p : Program} {l : Launch} {e : Env} {s : State} {m : MethodId} {args : Array Value} {below : List Frame} {meth : Method} {c : Code} {D : va_G} {A : Nat → Prop} {q : Nat → Nat} {cI cZ : ClassId} {Q : State → Prop} {r : Int} {τ : St} (C : Cx p s m args meth c D (TY cI cZ) cX10_table (some .int) 2 wsX10_table RX10) (hret : RtI p l e rmX10_table s m args below meth c D A cX10_table Q (wE q cI cZ τ) (zI r)) :
    ∀ (σ : St) (H : Heap) (locs : List Loc) (ls : Array Slot), Wd D A s (wE q cI cZ σ) H locs → lv_has ls 2 [(0, .ref (q 0))] → pX10_table_0 σ = some (r, τ) → W p l e rmX10_table s m args below meth c H locs 0 0 Q (F0 m 0 ls []) := by
  obtain ⟨hx, hb, hr, hml, hown, hts, hlk, hK, hN⟩ := id C
  intro σ H locs ls hw hl hf
  rw [pX10_table_0] at hf
  refine lv_aload_n hx hb dX10_table_0 rfl (lv_at hl 0 rfl) ?_
  refine va_get (D := D) (ci := 10) (v := .ref (q 7)) (C := RX10) (T := TX10) (N := 13) hx hb hts (fun _ h => List.mem_cons_of_mem _ (List.mem_append_left _ (List.mem_append_left _ (List.mem_append_left _ (List.mem_append_left _ (List.mem_append_left _ (List.mem_append_left _ (List.mem_append_left _ (List.mem_append_right _ h))))))))) hown hK hw.1 0 rfl rfl 0 (by decide) (hts (.fieldLink RX10 13 "EggThrones" "text" "LEggThrones$Text;") (List.mem_of_getElem? (i := 1) rfl)) (fun _ h9 => h9) rfl dX10_table_1 ?_
  refine lv_aload_n hx hb dX10_table_4 rfl (lv_at hl 0 rfl) ?_
  refine va_get (D := D) (ci := 10) (v := .ref (q 9)) (C := RX10) (T := TX10) (N := 13) hx hb hts (fun _ h => List.mem_cons_of_mem _ (List.mem_append_left _ (List.mem_append_left _ (List.mem_append_left _ (List.mem_append_left _ (List.mem_append_left _ (List.mem_append_left _ (List.mem_append_left _ (List.mem_append_right _ h))))))))) hown hK hw.1 0 rfl rfl 2 (by decide) (hts (.fieldLink RX10 23 "EggThrones" "draft" "LEggThrones$Table;") (List.mem_of_getElem? (i := 2) rfl)) (fun _ h9 => h9) rfl dX10_table_5 ?_
  obtain ⟨⟨r8, σ8⟩, h8, hf⟩ := bd_s hf
  have hf := hf2_s hf
  refine gVi (As := [.ref (q 9)]) (rest := []) C hw (tX9_readInto_c9 h8) (cwV 1 hts gX10_table_X9_readInto rfl rfl rfl (by decide +kernel) ⟨Nat.le_of_ble_eq_true rfl, Nat.le_of_ble_eq_true rfl⟩) 9 7 rfl rfl rfl hl.1 rfl (Nat.le_of_ble_eq_true rfl) dX10_table_8 (fun H locs hw => ?_)
  refine lv_istore_n (lv' := [(1, .int (zI r8)), (0, .ref (q 0))]) hx hb dX10_table_11 rfl hl (by decide) rfl (fun ls hl => ?_)
  refine lv_aload_n hx hb dX10_table_12 rfl (lv_at hl 1 rfl) ?_
  refine lv_aload_n hx hb dX10_table_13 rfl (lv_at hl 1 rfl) ?_
  refine va_get (D := D) (ci := 10) (v := .ref (q 7)) (C := RX10) (T := TX10) (N := 13) hx hb hts (fun _ h => List.mem_cons_of_mem _ (List.mem_append_left _ (List.mem_append_left _ (List.mem_append_left _ (List.mem_append_left _ (List.mem_append_left _ (List.mem_append_left _ (List.mem_append_left _ (List.mem_append_right _ h))))))))) hown hK hw.1 0 rfl rfl 0 (by decide) (hts (.fieldLink RX10 13 "EggThrones" "text" "LEggThrones$Text;") (List.mem_of_getElem? (i := 1) rfl)) (fun _ h9 => h9) rfl dX10_table_14 ?_
  obtain ⟨r17, h17, hf⟩ := bd_s hf
  replace hf := bt_s hf
  refine gVi (As := []) (rest := [.ref (q 0)]) C hw (tX9_faultPlace h17) (cwV 0 hts gX10_table_X9_faultPlace rfl rfl rfl (by decide +kernel) ⟨Nat.le_of_ble_eq_true rfl, Nat.le_of_ble_eq_true rfl⟩) 9 7 rfl rfl rfl hl.1 rfl (Nat.le_of_ble_eq_true rfl) dX10_table_17 (fun H locs hw => ?_)
  refine va_put (D := D) (ci := 10) (v := .int (zI r17)) (ty := .int) (C := RX10) (T := TX10) (N := 13) hx hb hts (fun _ h => List.mem_cons_of_mem _ (List.mem_append_left _ (List.mem_append_left _ (List.mem_append_left _ (List.mem_append_left _ (List.mem_append_left _ (List.mem_append_left _ (List.mem_append_left _ (List.mem_append_right _ h))))))))) tyX10 tyX10_ok nmX10 hown hK hw.1 hw.2.1 hw.2.2 0 rfl rfl 11 (by decide) (hts (.fieldLink RX10 84 "EggThrones" "latestFaultAt" "I") (List.mem_of_getElem? (i := 3) rfl)) (fun _ h9 => h9) rfl (by decide +kernel) rfl rfl (Nat.le_of_ble_eq_true rfl) dX10_table_20 (fun H locs hP hD hS => ?_)
  have hw : Wd D A s (wE q cI cZ (sI σ8 0 r17)) H locs := wdiE_0 hP hD hS
  obtain ⟨σ20, e20, hf⟩ := nm_s hf
  replace hf := bt_s hf
  rw [← e20] at hw
  refine lv_aload_n hx hb dX10_table_23 rfl (lv_at hl 1 rfl) ?_
  refine va_get (D := D) (ci := 10) (v := .ref (q 7)) (C := RX10) (T := TX10) (N := 13) hx hb hts (fun _ h => List.mem_cons_of_mem _ (List.mem_append_left _ (List.mem_append_left _ (List.mem_append_left _ (List.mem_append_left _ (List.mem_append_left _ (List.mem_append_left _ (List.mem_append_left _ (List.mem_append_right _ h))))))))) hown hK hw.1 0 rfl rfl 0 (by decide) (hts (.fieldLink RX10 13 "EggThrones" "text" "LEggThrones$Text;") (List.mem_of_getElem? (i := 1) rfl)) (fun _ h9 => h9) rfl dX10_table_24 ?_
  obtain ⟨σ27, h27, hf⟩ := bd_s hf
  replace hf := bt_s hf
  refine gVv (As := []) (rest := []) C hw (tX9_empty h27) (cwV 0 hts gX10_table_X9_empty rfl rfl rfl (by decide +kernel) ⟨Nat.le_of_ble_eq_true rfl, Nat.le_of_ble_eq_true rfl⟩) 9 7 rfl rfl rfl hl.1 rfl (Nat.le_of_ble_eq_true rfl) dX10_table_27 (fun H locs hw => ?_)
  refine lv_iload_n hx hb dX10_table_30 rfl (lv_at hl 0 rfl) ?_
  obtain ⟨hg31, hf⟩ := gd_s hf
  refine zv_if_eq (tgt := 39) hx hb hg31 dX10_table_31 (by decide) (fun (c31 : r8 = 0) => ?_) (fun (c31 : ¬ (r8 = 0)) => ?_)
  · rw [if_pos c31] at hf
    refine lv_aload_n hx hb dX10_table_39 rfl (lv_at hl 1 rfl) ?_
    refine va_get (D := D) (ci := 10) (v := .ref (q 1)) (C := RX10) (T := TX10) (N := 13) hx hb hts (fun _ h => List.mem_cons_of_mem _ (List.mem_append_left _ (List.mem_append_left _ (List.mem_append_left _ (List.mem_append_left _ (List.mem_append_left _ (List.mem_append_left _ (List.mem_append_left _ (List.mem_append_right _ h))))))))) hown hK hw.1 0 rfl rfl 1 (by decide) (hts (.fieldLink RX10 19 "EggThrones" "laid" "LEggThrones$Table;") (List.mem_of_getElem? (i := 4) rfl)) (fun _ h9 => h9) rfl dX10_table_40 ?_
    refine lv_aload_n hx hb dX10_table_43 rfl (lv_at hl 1 rfl) ?_
    refine va_get (D := D) (ci := 10) (v := .ref (q 9)) (C := RX10) (T := TX10) (N := 13) hx hb hts (fun _ h => List.mem_cons_of_mem _ (List.mem_append_left _ (List.mem_append_left _ (List.mem_append_left _ (List.mem_append_left _ (List.mem_append_left _ (List.mem_append_left _ (List.mem_append_left _ (List.mem_append_right _ h))))))))) hown hK hw.1 0 rfl rfl 2 (by decide) (hts (.fieldLink RX10 23 "EggThrones" "draft" "LEggThrones$Table;") (List.mem_of_getElem? (i := 2) rfl)) (fun _ h9 => h9) rfl dX10_table_44 ?_
    obtain ⟨σ47, h47, hf⟩ := bd_s hf
    replace hf := bt_s hf
    refine gVv (As := [.ref (q 9)]) (rest := []) C hw (tX8_become_c1_c9 h47) (cwV 1 hts gX10_table_X8_become rfl rfl rfl (by decide +kernel) ⟨Nat.le_of_ble_eq_true rfl, Nat.le_of_ble_eq_true rfl⟩) 8 1 rfl rfl rfl hl.1 rfl (Nat.le_of_ble_eq_true rfl) dX10_table_47 (fun H locs hw => ?_)
    refine lv_aload_n hx hb dX10_table_50 rfl (lv_at hl 1 rfl) ?_
    refine va_get (D := D) (ci := 10) (v := .ref (q 15)) (C := RX10) (T := TX10) (N := 13) hx hb hts (fun _ h => List.mem_cons_of_mem _ (List.mem_append_left _ (List.mem_append_left _ (List.mem_append_left _ (List.mem_append_left _ (List.mem_append_left _ (List.mem_append_left _ (List.mem_append_left _ (List.mem_append_right _ h))))))))) hown hK hw.1 0 rfl rfl 3 (by decide) (hts (.fieldLink RX10 31 "EggThrones" "now" "LEggThrones$Morning;") (List.mem_of_getElem? (i := 5) rfl)) (fun _ h9 => h9) rfl dX10_table_51 ?_
    obtain ⟨σ54, h54, hf⟩ := bd_s hf
    replace hf := bt_s hf
    refine gVv (As := []) (rest := []) C hw (tX4_begin h54) (cwV 0 hts gX10_table_X4_begin rfl rfl rfl (by decide +kernel) ⟨Nat.le_of_ble_eq_true rfl, Nat.le_of_ble_eq_true rfl⟩) 4 15 rfl rfl rfl hl.1 rfl (Nat.le_of_ble_eq_true rfl) dX10_table_54 (fun H locs hw => ?_)
    refine lv_aload_n hx hb dX10_table_57 rfl (lv_at hl 1 rfl) ?_
    refine va_get (D := D) (ci := 10) (v := .ref (q 18)) (C := RX10) (T := TX10) (N := 13) hx hb hts (fun _ h => List.mem_cons_of_mem _ (List.mem_append_left _ (List.mem_append_left _ (List.mem_append_left _ (List.mem_append_left _ (List.mem_append_left _ (List.mem_append_left _ (List.mem_append_left _ (List.mem_append_right _ h))))))))) hown hK hw.1 0 rfl rfl 4 (by decide) (hts (.fieldLink RX10 38 "EggThrones" "past" "LEggThrones$Past;") (List.mem_of_getElem? (i := 6) rfl)) (fun _ h9 => h9) rfl dX10_table_58 ?_
    obtain ⟨σ61, h61, hf⟩ := bd_s hf
    replace hf := bt_s hf
    refine gVv (As := []) (rest := []) C hw (tX5_forget h61) (cwV 0 hts gX10_table_X5_forget rfl rfl rfl (by decide +kernel) ⟨Nat.le_of_ble_eq_true rfl, Nat.le_of_ble_eq_true rfl⟩) 5 18 rfl rfl rfl hl.1 rfl (Nat.le_of_ble_eq_true rfl) dX10_table_61 (fun H locs hw => ?_)
    refine lv_aload_n hx hb dX10_table_64 rfl (lv_at hl 1 rfl) ?_
    refine va_get (D := D) (ci := 10) (v := .ref (q 20)) (C := RX10) (T := TX10) (N := 13) hx hb hts (fun _ h => List.mem_cons_of_mem _ (List.mem_append_left _ (List.mem_append_left _ (List.mem_append_left _ (List.mem_append_left _ (List.mem_append_left _ (List.mem_append_left _ (List.mem_append_left _ (List.mem_append_right _ h))))))))) hown hK hw.1 0 rfl rfl 5 (by decide) (hts (.fieldLink RX10 45 "EggThrones" "images" "LEggThrones$Images;") (List.mem_of_getElem? (i := 7) rfl)) (fun _ h9 => h9) rfl dX10_table_65 ?_
    obtain ⟨σ68, h68, hf⟩ := bd_s hf
    replace hf := bt_s hf
    refine gVv (As := []) (rest := []) C hw (tX3_forget h68) (cwV 0 hts gX10_table_X3_forget rfl rfl rfl (by decide +kernel) ⟨Nat.le_of_ble_eq_true rfl, Nat.le_of_ble_eq_true rfl⟩) 3 20 rfl rfl rfl hl.1 rfl (Nat.le_of_ble_eq_true rfl) dX10_table_68 (fun H locs hw => ?_)
    refine lv_aload_n hx hb dX10_table_71 rfl (lv_at hl 1 rfl) ?_
    refine va_get (D := D) (ci := 10) (v := .ref (q 24)) (C := RX10) (T := TX10) (N := 13) hx hb hts (fun _ h => List.mem_cons_of_mem _ (List.mem_append_left _ (List.mem_append_left _ (List.mem_append_left _ (List.mem_append_left _ (List.mem_append_left _ (List.mem_append_left _ (List.mem_append_left _ (List.mem_append_right _ h))))))))) hown hK hw.1 0 rfl rfl 6 (by decide) (hts (.fieldLink RX10 52 "EggThrones" "clues" "LEggThrones$Clues;") (List.mem_of_getElem? (i := 8) rfl)) (fun _ h9 => h9) rfl dX10_table_72 ?_
    obtain ⟨σ75, h75, hf⟩ := bd_s hf
    replace hf := bt_s hf
    refine gVv (As := []) (rest := []) C hw (tX2_forget h75) (cwV 0 hts gX10_table_X2_forget rfl rfl rfl (by decide +kernel) ⟨Nat.le_of_ble_eq_true rfl, Nat.le_of_ble_eq_true rfl⟩) 2 24 rfl rfl rfl hl.1 rfl (Nat.le_of_ble_eq_true rfl) dX10_table_75 (fun H locs hw => ?_)
    refine lv_aload_n hx hb dX10_table_78 rfl (lv_at hl 1 rfl) ?_
    refine va_get (D := D) (ci := 10) (v := .ref (q 27)) (C := RX10) (T := TX10) (N := 13) hx hb hts (fun _ h => List.mem_cons_of_mem _ (List.mem_append_left _ (List.mem_append_left _ (List.mem_append_left _ (List.mem_append_left _ (List.mem_append_left _ (List.mem_append_left _ (List.mem_append_left _ (List.mem_append_right _ h))))))))) hown hK hw.1 0 rfl rfl 7 (by decide) (hts (.fieldLink RX10 59 "EggThrones" "book" "LEggThrones$Book;") (List.mem_of_getElem? (i := 9) rfl)) (fun _ h9 => h9) rfl dX10_table_79 ?_
    obtain ⟨σ82, h82, hf⟩ := bd_s hf
    replace hf := bt_s hf
    refine gVv (As := []) (rest := []) C hw (tX1_forget h82) (cwV 0 hts gX10_table_X1_forget rfl rfl rfl (by decide +kernel) ⟨Nat.le_of_ble_eq_true rfl, Nat.le_of_ble_eq_true rfl⟩) 1 27 rfl rfl rfl hl.1 rfl (Nat.le_of_ble_eq_true rfl) dX10_table_82 (fun H locs hw => ?_)
    refine lv_aload_n hx hb dX10_table_85 rfl (lv_at hl 1 rfl) ?_
    refine va_get (D := D) (ci := 10) (v := .ref (q 1)) (C := RX10) (T := TX10) (N := 13) hx hb hts (fun _ h => List.mem_cons_of_mem _ (List.mem_append_left _ (List.mem_append_left _ (List.mem_append_left _ (List.mem_append_left _ (List.mem_append_left _ (List.mem_append_left _ (List.mem_append_left _ (List.mem_append_right _ h))))))))) hown hK hw.1 0 rfl rfl 1 (by decide) (hts (.fieldLink RX10 19 "EggThrones" "laid" "LEggThrones$Table;") (List.mem_of_getElem? (i := 4) rfl)) (fun _ h9 => h9) rfl dX10_table_86 ?_
    refine va_getN (D := D) (ci := 8) (v := .int (zI (σ82.1 5))) (C := RX8) (T := TX8) (N := 10) hx hb hts (fun _ h => List.mem_cons_of_mem _ (List.mem_append_left _ (List.mem_append_left _ (List.mem_append_left _ (List.mem_append_left _ (List.mem_append_left _ (List.mem_append_left _ (List.mem_append_right _ h)))))))) hown hK hw.1 1 rfl rfl 3 (by decide) (va_Nw.use rfl (hN (.fieldLinkNest "EggThrones" 127 "EggThrones$Table" "eggs" "I" "EggThrones") (by decide +kernel))) (fun _ h9 => h9) rfl dX10_table_89 ?_
    cases hf
    exact hret H locs ls 92 dX10_table_92 hw
  · rw [if_neg c31] at hf
    refine lv_bipush (v := zI (-10)) hx hb dX10_table_34 (by decide +kernel) ?_
    refine lv_iload_n hx hb dX10_table_36 rfl (lv_at hl 0 rfl) ?_
    refine zv_isub hx hb dX10_table_37 ?_
    cases hf
    exact hret H locs ls 38 dX10_table_38 hw
set_option maxHeartbeats 4000000 in
set_option maxRecDepth 100000 in
theorem tX10_table {l : Launch} {D : va_G} {A : Nat → Prop} {cI cZ : ClassId} {q : Nat → Nat} {σ : St} {r : Int} {τ : St} (hf : pX10_table σ = some (r, τ)) : Met l yX10_table wsX10_table rmX10_table (va_Pc [.ref (q 0)] (CX D (TY cI cZ) A (wE q cI cZ σ))) (QI D (TY cI cZ) A (wE q cI cZ τ) (zI r)) 0 0 A := by
  refine opn (cc := cX10_table) (maxL := 2) (ret := (some .int)) (by decide) rfl (Nat.le_of_ble_eq_true rfl) (fun p e s m below meth c C ls hw hl => ?_)
  have hl : lv_has ls 2 [(0, .ref (q 0))] := hl
  rw [pX10_table] at hf
  exact wX10_table_0 C (rtI C) σ _ _ ls hw (lv_sub hl [0] rfl) hf
