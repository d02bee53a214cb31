abbrev rmX11_isEater : Room := { frames := 1, cells := 0, slots := 0, locals := 25 }
set_option maxHeartbeats 4000000 in
set_option maxRecDepth 100000 in
theorem wX11_isEater_0 {p : Program} {l : Launch} {e : Env} {s : State} {m : MethodId} {args : Array Value} {below : List Frame} {meth : Method} {c : Code} {D : va_G} {A : Nat → Prop} {q : Nat → Nat} {cI cZ : ClassId} {Q : State → Prop} {σ : St} {r : Int} (C : Cx p s m args meth c D (TY cI cZ) cX11_isEater (some .boolean) 2 wsX11_isEater RX11) (hret : RtZ p l e rmX11_isEater s m args below meth c D A cX11_isEater Q (wM q cI cZ σ) (zI r)) :
    ∀ (x1 : Int) (H : Heap) (locs : List Loc) (ls : Array Slot), Wd D A s (wM q cI cZ σ) H locs → lv_has ls 2 [(0, .ref (q 0)), (1, .int (zI x1))] → pX11_isEater_0 σ x1 = some r → W p l e rmX11_isEater s m args below meth c H locs 0 0 Q (F0 m 0 ls []) := by
  obtain ⟨hx, hb, hr, hml, hown, hts, hlk, hK, hN⟩ := id C
  intro x1 H locs ls hw hl hf
  rw [pX11_isEater_0] at hf
  refine lv_iload_n hx hb dX11_isEater_0 rfl (lv_at hl 1 rfl) ?_
  obtain ⟨hz1, hf⟩ := gd_s hf
  refine zv_i2l hx hb hz1 dX11_isEater_1 ?_
  refine lv_lconst (v := zL 0) hx hb dX11_isEater_2 (by decide +kernel) ?_
  refine lv_aload_n hx hb dX11_isEater_3 rfl (lv_at hl 0 rfl) ?_
  refine va_get (D := D) (ci := 11) (v := .int (zI (σ.1 3))) (C := RX11) (T := TX11) (N := 40) hx hb hts (fun _ h => List.mem_cons_of_mem _ (List.mem_append_right _ h)) hown hK hw.1 0 rfl rfl 5 (by decide) (hts (.fieldLink RX11 100 "EggThronesModel" "eaters" "I") (List.mem_of_getElem? (i := 1) rfl)) (fun _ h9 => h9) rfl dX11_isEater_4 ?_
  refine lv_iconst (v := zI 1) hx hb dX11_isEater_7 rfl ?_
  refine zv_isub hx hb dX11_isEater_8 ?_
  obtain ⟨hz9, hf⟩ := gd_s hf
  refine zv_i2l hx hb hz9 dX11_isEater_9 ?_
  obtain ⟨r10, h10, hf⟩ := bd_s hf
  replace hf := bt_s hf
  refine gSi (As := [.long (zL x1), .long (zL 0), .long (zL ((σ.1 3) - 1))]) (rest := []) C hw (tX11_in h10) (va_cwS 3 hts gX11_isEater_X11_in rfl rfl rfl (by decide +kernel) ⟨Nat.le_of_ble_eq_true rfl, Nat.le_of_ble_eq_true rfl⟩) rfl hl.1 rfl (Nat.le_of_ble_eq_true rfl) dX11_isEater_10 (fun H locs hw => ?_)
  obtain ⟨hz13, hf⟩ := gd_s hf
  cases hf
  exact hret H locs ls 13 dX11_isEater_13 (nz01 hz13) hw
set_option maxHeartbeats 4000000 in
set_option maxRecDepth 100000 in
theorem tX11_isEater {l : Launch} {D : va_G} {A : Nat → Prop} {cI cZ : ClassId} {q : Nat → Nat} {σ : St} {x1 : Int} {r : Int} (hf : pX11_isEater σ x1 = some r) : Met l yX11_isEater wsX11_isEater rmX11_isEater (va_Pc [.ref (q 0), .int (zI x1)] (CX D (TY cI cZ) A (wM q cI cZ σ))) (QI D (TY cI cZ) A (wM q cI cZ σ) (zI r)) 0 0 A := by
  refine opn (cc := cX11_isEater) (maxL := 2) (ret := (some .boolean)) (by decide) rfl (Nat.le_of_ble_eq_true rfl) (fun p e s m below meth c C ls hw hl => ?_)
  have hl : lv_has ls 2 [(0, .ref (q 0)), (1, .int (zI x1))] := hl
  rw [pX11_isEater] at hf
  exact wX11_isEater_0 C (rtZ C) x1 _ _ ls hw (lv_sub hl [0, 1] rfl) hf
abbrev rmX11_eater : Room := { frames := 2, cells := 0, slots := 0, locals := 46 }
set_option maxHeartbeats 4000000 in
set_option maxRecDepth 100000 in
theorem wX11_eater_0 {p : Program} {l : Launch} {e : Env} {s : State} {m : MethodId} {args : Array Value} {below : List Frame} {meth : Method} {c : Code} {D : va_G} {A : Nat → Prop} {q : Nat → Nat} {cI cZ : ClassId} {Q : State → Prop} {σ : St} {r : Int} (C : Cx p s m args meth c D (TY cI cZ) cX11_eater (some .int) 3 wsX11_eater RX11) (hret : RtI p l e rmX11_eater s m args below meth c D A cX11_eater Q (wM q cI cZ σ) (zI r)) :
    ∀ (x1 : Int) (x2 : Int) (H : Heap) (locs : List Loc) (ls : Array Slot), Wd D A s (wM q cI cZ σ) H locs → lv_has ls 3 [(0, .ref (q 0)), (1, .int (zI x1)), (2, .int (zI x2))] → pX11_eater_0 σ x1 x2 = some r → W p l e rmX11_eater s m args below meth c H locs 0 0 Q (F0 m 0 ls []) := by
  obtain ⟨hx, hb, hr, hml, hown, hts, hlk, hK, hN⟩ := id C
  intro x1 x2 H locs ls hw hl hf
  rw [pX11_eater_0] at hf
  refine lv_aload_n hx hb dX11_eater_0 rfl (lv_at hl 0 rfl) ?_
  refine lv_iload_n hx hb dX11_eater_1 rfl (lv_at hl 1 rfl) ?_
  obtain ⟨r2, h2, hf⟩ := bd_s hf
  replace hf := bt_s hf
  refine gVi (As := [.int (zI x1)]) (rest := []) C hw (tX11_isEater h2) (cwV 1 hts gX11_eater_X11_isEater rfl rfl rfl (by decide +kernel) ⟨Nat.le_of_ble_eq_true rfl, Nat.le_of_ble_eq_true rfl⟩) 11 0 rfl rfl rfl hl.1 rfl (Nat.le_of_ble_eq_true rfl) dX11_eater_2 (fun H locs hw => ?_)
  obtain ⟨hg5, hf⟩ := gd_s hf
  refine zv_if_ne (tgt := 11) hx hb hg5 dX11_eater_5 (by decide) (fun (c5 : ¬ (r2 = 0)) => ?_) (fun (c5 : r2 = 0) => ?_)
  · rw [if_neg c5] at hf
    refine lv_iload_n hx hb dX11_eater_11 rfl (lv_at hl 2 rfl) ?_
    obtain ⟨hg12, hf⟩ := gd_s hf
    refine zv_if_ne (tgt := 24) hx hb hg12 dX11_eater_12 (by decide) (fun (c12 : ¬ (x2 = 0)) => ?_) (fun (c12 : x2 = 0) => ?_)
    · rw [if_neg c12] at hf
      refine lv_iload_n hx hb dX11_eater_24 rfl (lv_at hl 2 rfl) ?_
      refine lv_iconst (v := zI 1) hx hb dX11_eater_25 rfl ?_
      obtain ⟨hg26, hf⟩ := gd_s hf
      refine zv_icmp_ne (tgt := 38) hx hb ⟨hg26, by decide⟩ dX11_eater_26 (by decide) (fun (c26 : ¬ (x2 = 1)) => ?_) (fun (c26 : x2 = 1) => ?_)
      · rw [if_neg c26] at hf
        refine zv_ldc hx hb (-1000000002) (by decide +kernel) hown (hts (.constant RX11 105 (-1000000002)) (List.mem_of_getElem? (i := 4) rfl)) dX11_eater_38 ?_
        cases hf
        exact hret H locs ls 40 dX11_eater_40 hw
      · rw [if_pos c26] at hf
        refine lv_aload_n hx hb dX11_eater_29 rfl (lv_at hl 0 rfl) ?_
        refine va_get (D := D) (ci := 11) (v := .ref (q 4)) (C := RX11) (T := TX11) (N := 40) hx hb hts (fun _ h => List.mem_cons_of_mem _ (List.mem_append_right _ h)) hown hK hw.1 0 rfl rfl 7 (by decide) (hts (.fieldLink RX11 19 "EggThronesModel" "likesMost" "[I") (List.mem_of_getElem? (i := 3) rfl)) (fun _ h9 => h9) rfl dX11_eater_30 ?_
        refine lv_iload_n hx hb dX11_eater_33 rfl (lv_at hl 1 rfl) ?_
        obtain ⟨hi34, hf⟩ := gd_s hf
        refine zv_iald (D := D) hx hb hK hw.1 4 0 rfl rfl hi34 (by decide) dX11_eater_34 ?_
        refine lv_goto (tgt := 40) hx hb dX11_eater_35 (by decide) ?_
        cases hf
        exact hret H locs ls 40 dX11_eater_40 hw
    · rw [if_pos c12] at hf
      refine lv_aload_n hx hb dX11_eater_15 rfl (lv_at hl 0 rfl) ?_
      refine va_get (D := D) (ci := 11) (v := .ref (q 3)) (C := RX11) (T := TX11) (N := 40) hx hb hts (fun _ h => List.mem_cons_of_mem _ (List.mem_append_right _ h)) hown hK hw.1 0 rfl rfl 6 (by decide) (hts (.fieldLink RX11 16 "EggThronesModel" "likesLeast" "[I") (List.mem_of_getElem? (i := 2) rfl)) (fun _ h9 => h9) rfl dX11_eater_16 ?_
      refine lv_iload_n hx hb dX11_eater_19 rfl (lv_at hl 1 rfl) ?_
      obtain ⟨hi20, hf⟩ := gd_s hf
      refine zv_iald (D := D) hx hb hK hw.1 3 0 rfl rfl hi20 (by decide) dX11_eater_20 ?_
      refine lv_goto (tgt := 40) hx hb dX11_eater_21 (by decide) ?_
      cases hf
      exact hret H locs ls 40 dX11_eater_40 hw
  · rw [if_pos c5] at hf
    refine zv_ldc hx hb (-1000000001) (by decide +kernel) hown (hts (.constant RX11 200 (-1000000001)) (List.mem_of_getElem? (i := 1) rfl)) dX11_eater_8 ?_
    cases hf
    exact hret H locs ls 10 dX11_eater_10 hw
set_option maxHeartbeats 4000000 in
set_option maxRecDepth 100000 in
theorem tX11_eater {l : Launch} {D : va_G} {A : Nat → Prop} {cI cZ : ClassId} {q : Nat → Nat} {σ : St} {x1 : Int} {x2 : Int} {r : Int} (hf : pX11_eater σ x1 x2 = some r) : Met l yX11_eater wsX11_eater rmX11_eater (va_Pc [.ref (q 0), .int (zI x1), .int (zI x2)] (CX D (TY cI cZ) A (wM q cI cZ σ))) (QI D (TY cI cZ) A (wM q cI cZ σ) (zI r)) 0 0 A := by
  refine opn (cc := cX11_eater) (maxL := 3) (ret := (some .int)) (by decide) rfl (Nat.le_of_ble_eq_true rfl) (fun p e s m below meth c C ls hw hl => ?_)
  have hl : lv_has ls 3 [(0, .ref (q 0)), (1, .int (zI x1)), (2, .int (zI x2))] := hl
  rw [pX11_eater] at hf
  exact wX11_eater_0 C (rtI C) x1 x2 _ _ ls hw (lv_sub hl [0, 1, 2] rfl) hf
abbrev rmX4_setState : Room := { frames := 1, cells := 0, slots := 0, locals := 21 }
set_option maxHeartbeats 4000000 in
set_option maxRecDepth 100000 in
theorem wX4_setState_0 {p : Program} {l : Launch} {e : Env} {s : State} {m : MethodId} {args : Array Value} {below : List Frame} {meth : Method} {c : Code} {D : va_G} {A : Nat → Prop} {q : Nat → Nat} {cI cZ : ClassId} {Q : State → Prop} {τ : St} (C : Cx p s m args meth c D (TY cI cZ) cX4_setState none 3 wsX4_setState RX4) (hret : RtV p l e rmX4_setState s m args below meth c D A cX4_setState Q (wE q cI cZ τ)) :
    ∀ (σ : St) (x1 : Int) (x2 : Int) (H : Heap) (locs : List Loc) (ls : Array Slot), Wd D A s (wE q cI cZ σ) H locs → lv_has ls 3 [(0, .ref (q 15)), (1, .int (zI x1)), (2, .int (zI x2))] → pX4_setState_0 σ x1 x2 = some τ → W p l e rmX4_setState s m args below meth c H locs 0 0 Q (F0 m 0 ls []) := by
  obtain ⟨hx, hb, hr, hml, hown, hts, hlk, hK, hN⟩ := id C
  intro σ x1 x2 H locs ls hw hl hf
  rw [pX4_setState_0] at hf
  refine lv_aload_n hx hb dX4_setState_0 rfl (lv_at hl 0 rfl) ?_
  refine va_get (D := D) (ci := 4) (v := .ref (q 1)) (C := RX4) (T := TX4) (N := 9) hx hb hts (fun _ h => List.mem_cons_of_mem _ (List.mem_append_left _ (List.mem_append_right _ h))) hown hK hw.1 15 rfl rfl 0 (by decide) (hts (.fieldLink RX4 9 "EggThrones$Morning" "table" "LEggThrones$Table;") (List.mem_of_getElem? (i := 1) rfl)) (fun _ h9 => h9) rfl dX4_setState_1 ?_
  refine lv_iload_n hx hb dX4_setState_4 rfl (lv_at hl 1 rfl) ?_
  obtain ⟨r5, h5, hf⟩ := bd_s hf
  replace hf := bt_s hf
  refine gVi (As := [.int (zI x1)]) (rest := []) C hw (tX8_hasEgg_c1 h5) (cwV 1 hts gX4_setState_X8_hasEgg rfl rfl rfl (by decide +kernel) ⟨Nat.le_of_ble_eq_true rfl, Nat.le_of_ble_eq_true rfl⟩) 8 1 rfl rfl rfl hl.1 rfl (Nat.le_of_ble_eq_true rfl) dX4_setState_5 (fun H locs hw => ?_)
  obtain ⟨hg8, hf⟩ := gd_s hf
  refine zv_if_eq (tgt := 18) hx hb hg8 dX4_setState_8 (by decide) (fun (c8 : r5 = 0) => ?_) (fun (c8 : ¬ (r5 = 0)) => ?_)
  · rw [if_pos c8] at hf
    cases hf
    exact hret H locs ls 18 dX4_setState_18 hw
  · rw [if_neg c8] at hf
    refine lv_aload_n hx hb dX4_setState_11 rfl (lv_at hl 0 rfl) ?_
    refine va_get (D := D) (ci := 4) (v := .ref (q 16)) (C := RX4) (T := TX4) (N := 9) hx hb hts (fun _ h => List.mem_cons_of_mem _ (List.mem_append_left _ (List.mem_append_right _ h))) hown hK hw.1 15 rfl rfl 1 (by decide) (hts (.fieldLink RX4 15 "EggThrones$Morning" "states" "[I") (List.mem_of_getElem? (i := 2) rfl)) (fun _ h9 => h9) rfl dX4_setState_12 ?_
    refine lv_iload_n hx hb dX4_setState_15 rfl (lv_at hl 1 rfl) ?_
    refine lv_iload_n hx hb dX4_setState_16 rfl (lv_at hl 2 rfl) ?_
    obtain ⟨hi17, hf⟩ := gd_s hf
    refine zv_iast (D := D) hx hb hK hw.1 hw.2.1 hw.2.2 16 0 rfl rfl hi17 (by decide) dX4_setState_17 (fun H locs hP hD hS => ?_)
    have hw : Wd D A s (wE q cI cZ (sA σ 11 (va_up (σ.2 11) (Int.toNat x1) x2))) H locs := wdaE_11 hP hD hS
    obtain ⟨σ17, e17, hf⟩ := nm_s hf
    replace hf := bt_s hf
    rw [← e17] at hw
    cases hf
    exact hret H locs ls 18 dX4_setState_18 hw
set_option maxHeartbeats 4000000 in
set_option maxRecDepth 100000 in
theorem tX4_setState {l : Launch} {D : va_G} {A : Nat → Prop} {cI cZ : ClassId} {q : Nat → Nat} {σ : St} {x1 : Int} {x2 : Int} {τ : St} (hf : pX4_setState σ x1 x2 = some τ) : Met l yX4_setState wsX4_setState rmX4_setState (va_Pc [.ref (q 15), .int (zI x1), .int (zI x2)] (CX D (TY cI cZ) A (wE q cI cZ σ))) (QV D (TY cI cZ) A (wE q cI cZ τ)) 0 0 A := by
  refine opn (cc := cX4_setState) (maxL := 3) (ret := none) (by decide) rfl (Nat.le_of_ble_eq_true rfl) (fun p e s m below meth c C ls hw hl => ?_)
  have hl : lv_has ls 3 [(0, .ref (q 15)), (1, .int (zI x1)), (2, .int (zI x2))] := hl
  rw [pX4_setState] at hf
  exact wX4_setState_0 C (rtV C) σ x1 x2 _ _ ls hw (lv_sub hl [0, 1, 2] rfl) hf
abbrev rmX4_endReign : Room := { frames := 2, cells := 0, slots := 0, locals := 43 }
set_option maxHeartbeats 4000000 in
set_option maxRecDepth 100000 in
theorem wX4_endReign_0 {p : Program} {l : Launch} {e : Env} {s : State} {m : MethodId} {args : Array Value} {below : List Frame} {meth : Method} {c : Code} {D : va_G} {A : Nat → Prop} {q : Nat → Nat} {cI cZ : ClassId} {Q : State → Prop} {τ : St} (C : Cx p s m args meth c D (TY cI cZ) cX4_endReign none 2 wsX4_endReign RX4) (hret : RtV p l e rmX4_endReign s m args below meth c D A cX4_endReign Q (wE q cI cZ τ)) :
    ∀ (σ : St) (x1 : Int) (H : Heap) (locs : List Loc) (ls : Array Slot), Wd D A s (wE q cI cZ σ) H locs → lv_has ls 2 [(0, .ref (q 15)), (1, .int (zI x1))] → pX4_endReign_0 σ x1 = some τ → W p l e rmX4_endReign s m args below meth c H locs 0 0 Q (F0 m 0 ls []) := by
  obtain ⟨hx, hb, hr, hml, hown, hts, hlk, hK, hN⟩ := id C
  intro σ x1 H locs ls hw hl hf
  rw [pX4_endReign_0] at hf
  refine lv_aload_n hx hb dX4_endReign_0 rfl (lv_at hl 0 rfl) ?_
  refine lv_aload_n hx hb dX4_endReign_1 rfl (lv_at hl 0 rfl) ?_
  refine va_get (D := D) (ci := 4) (v := .int (zI (σ.1 16))) (C := RX4) (T := TX4) (N := 9) hx hb hts (fun _ h => List.mem_cons_of_mem _ (List.mem_append_left _ (List.mem_append_right _ h))) hown hK hw.1 15 rfl rfl 3 (by decide) (hts (.fieldLink RX4 22 "EggThrones$Morning" "king" "I") (List.mem_of_getElem? (i := 1) rfl)) (fun _ h9 => h9) rfl dX4_endReign_2 ?_
  refine lv_iload_n hx hb dX4_endReign_5 rfl (lv_at hl 1 rfl) ?_
  obtain ⟨σ6, h6, hf⟩ := bd_s hf
  replace hf := bt_s hf
  refine gVv (As := [.int (zI (σ.1 16)), .int (zI x1)]) (rest := []) C hw (tX4_setState h6) (cwV 2 hts gX4_endReign_X4_setState rfl rfl rfl (by decide +kernel) ⟨Nat.le_of_ble_eq_true rfl, Nat.le_of_ble_eq_true rfl⟩) 4 15 rfl rfl rfl hl.1 rfl (Nat.le_of_ble_eq_true rfl) dX4_endReign_6 (fun H locs hw => ?_)
  refine lv_aload_n hx hb dX4_endReign_9 rfl (lv_at hl 0 rfl) ?_
  refine lv_iconst (v := zI (-1)) hx hb dX4_endReign_10 rfl ?_
  refine va_put (D := D) (ci := 4) (v := .int (zI (-1))) (ty := .int) (C := RX4) (T := TX4) (N := 9) hx hb hts (fun _ h => List.mem_cons_of_mem _ (List.mem_append_left _ (List.mem_append_right _ h))) tyX4 tyX4_ok nmX4 hown hK hw.1 hw.2.1 hw.2.2 15 rfl rfl 3 (by decide) (hts (.fieldLink RX4 22 "EggThrones$Morning" "king" "I") (List.mem_of_getElem? (i := 1) rfl)) (fun _ h9 => h9) rfl (by decide +kernel) rfl rfl (Nat.le_of_ble_eq_true rfl) dX4_endReign_11 (fun H locs hP hD hS => ?_)
  have hw : Wd D A s (wE q cI cZ (sI σ6 16 (-1))) H locs := wdiE_16 hP hD hS
  obtain ⟨σ11, e11, hf⟩ := nm_s hf
  replace hf := bt_s hf
  rw [← e11] at hw
  refine lv_aload_n hx hb dX4_endReign_14 rfl (lv_at hl 0 rfl) ?_
  refine lv_iconst (v := zI 0) hx hb dX4_endReign_15 rfl ?_
  refine va_put (D := D) (ci := 4) (v := .int (zI 0)) (ty := .int) (C := RX4) (T := TX4) (N := 9) hx hb hts (fun _ h => List.mem_cons_of_mem _ (List.mem_append_left _ (List.mem_append_right _ h))) tyX4 tyX4_ok nmX4 hown hK hw.1 hw.2.1 hw.2.2 15 rfl rfl 4 (by decide) (hts (.fieldLink RX4 26 "EggThrones$Morning" "left" "I") (List.mem_of_getElem? (i := 2) rfl)) (fun _ h9 => h9) rfl (by decide +kernel) rfl rfl (Nat.le_of_ble_eq_true rfl) dX4_endReign_16 (fun H locs hP hD hS => ?_)
  have hw : Wd D A s (wE q cI cZ (sI σ11 17 0)) H locs := wdiE_17 hP hD hS
  obtain ⟨σ16, e16, hf⟩ := nm_s hf
  replace hf := bt_s hf
  rw [← e16] at hw
  cases hf
  exact hret H locs ls 19 dX4_endReign_19 hw
set_option maxHeartbeats 4000000 in
set_option maxRecDepth 100000 in
theorem tX4_endReign {l : Launch} {D : va_G} {A : Nat → Prop} {cI cZ : ClassId} {q : Nat → Nat} {σ : St} {x1 : Int} {τ : St} (hf : pX4_endReign σ x1 = some τ) : Met l yX4_endReign wsX4_endReign rmX4_endReign (va_Pc [.ref (q 15), .int (zI x1)] (CX D (TY cI cZ) A (wE q cI cZ σ))) (QV D (TY cI cZ) A (wE q cI cZ τ)) 0 0 A := by
  refine opn (cc := cX4_endReign) (maxL := 2) (ret := none) (by decide) rfl (Nat.le_of_ble_eq_true rfl) (fun p e s m below meth c C ls hw hl => ?_)
  have hl : lv_has ls 2 [(0, .ref (q 15)), (1, .int (zI x1))] := hl
  rw [pX4_endReign] at hf
  exact wX4_endReign_0 C (rtV C) σ x1 _ _ ls hw (lv_sub hl [0, 1] rfl) hf
abbrev rmX4_passMinuteOfKing : Room := { frames := 3, cells := 0, slots := 0, locals := 64 }
set_option maxHeartbeats 4000000 in
set_option maxRecDepth 100000 in
theorem wX4_passMinuteOfKing_0 {p : Program} {l : Launch} {e : Env} {s : State} {m : MethodId} {args : Array Value} {below : List Frame} {meth : Method} {c : Code} {D : va_G} {A : Nat → Prop} {q : Nat → Nat} {cI cZ : ClassId} {Q : State → Prop} {τ : St} (C : Cx p s m args meth c D (TY cI cZ) cX4_passMinuteOfKing none 1 wsX4_passMinuteOfKing RX4) (hret : RtV p l e rmX4_passMinuteOfKing s m args below meth c D A cX4_passMinuteOfKing Q (wE q cI cZ τ)) :
    ∀ (σ : St) (H : Heap) (locs : List Loc) (ls : Array Slot), Wd D A s (wE q cI cZ σ) H locs → lv_has ls 1 [(0, .ref (q 15))] → pX4_passMinuteOfKing_0 σ = some τ → W p l e rmX4_passMinuteOfKing s m args below meth c H locs 0 0 Q (F0 m 0 ls []) := by
  obtain ⟨hx, hb, hr, hml, hown, hts, hlk, hK, hN⟩ := id C
  intro σ H locs ls hw hl hf
  rw [pX4_passMinuteOfKing_0] at hf
  refine lv_aload_n hx hb dX4_passMinuteOfKing_0 rfl (lv_at hl 0 rfl) ?_
  refine va_get (D := D) (ci := 4) (v := .int (zI (σ.1 18))) (C := RX4) (T := TX4) (N := 9) hx hb hts (fun _ h => List.mem_cons_of_mem _ (List.mem_append_left _ (List.mem_append_right _ h))) hown hK hw.1 15 rfl rfl 5 (by decide) (hts (.fieldLink RX4 29 "EggThrones$Morning" "soldiers" "I") (List.mem_of_getElem? (i := 1) rfl)) (fun _ h9 => h9) rfl dX4_passMinuteOfKing_1 ?_
  refine lv_iconst (v := zI 2) hx hb dX4_passMinuteOfKing_4 rfl ?_
  obtain ⟨hg5, hf⟩ := gd_s hf
  refine zv_icmp_ge (tgt := 14) hx hb ⟨hg5, by decide⟩ dX4_passMinuteOfKing_5 (by decide) (fun (c5 : 2 ≤ (σ.1 18)) => ?_) (fun (c5 : ¬ (2 ≤ (σ.1 18))) => ?_)
  · rw [if_pos c5] at hf
    refine lv_aload_n hx hb dX4_passMinuteOfKing_14 rfl (lv_at hl 0 rfl) ?_
    refine lv_dup hx hb dX4_passMinuteOfKing_15 rfl ?_
    refine va_get (D := D) (ci := 4) (v := .int (zI (σ.1 18))) (C := RX4) (T := TX4) (N := 9) hx hb hts (fun _ h => List.mem_cons_of_mem _ (List.mem_append_left _ (List.mem_append_right _ h))) hown hK hw.1 15 rfl rfl 5 (by decide) (hts (.fieldLink RX4 29 "EggThrones$Morning" "soldiers" "I") (List.mem_of_getElem? (i := 1) rfl)) (fun _ h9 => h9) rfl dX4_passMinuteOfKing_16 ?_
    refine lv_iconst (v := zI 2) hx hb dX4_passMinuteOfKing_19 rfl ?_
    refine zv_isub hx hb dX4_passMinuteOfKing_20 ?_
    refine va_put (D := D) (ci := 4) (v := .int (zI ((σ.1 18) - 2))) (ty := .int) (C := RX4) (T := TX4) (N := 9) hx hb hts (fun _ h => List.mem_cons_of_mem _ (List.mem_append_left _ (List.mem_append_right _ h))) tyX4 tyX4_ok nmX4 hown hK hw.1 hw.2.1 hw.2.2 15 rfl rfl 5 (by decide) (hts (.fieldLink RX4 29 "EggThrones$Morning" "soldiers" "I") (List.mem_of_getElem? (i := 1) rfl)) (fun _ h9 => h9) rfl (by decide +kernel) rfl rfl (Nat.le_of_ble_eq_true rfl) dX4_passMinuteOfKing_21 (fun H locs hP hD hS => ?_)
    have hw : Wd D A s (wE q cI cZ (sI σ 18 ((σ.1 18) - 2))) H locs := wdiE_18 hP hD hS
    obtain ⟨σ21, e21, hf⟩ := nm_s hf
    replace hf := bt_s hf
    rw [← e21] at hw
    refine lv_aload_n hx hb dX4_passMinuteOfKing_24 rfl (lv_at hl 0 rfl) ?_
    refine lv_dup hx hb dX4_passMinuteOfKing_25 rfl ?_
    refine va_get (D := D) (ci := 4) (v := .int (zI (σ21.1 20))) (C := RX4) (T := TX4) (N := 9) hx hb hts (fun _ h => List.mem_cons_of_mem _ (List.mem_append_left _ (List.mem_append_right _ h))) hown hK hw.1 15 rfl rfl 7 (by decide) (hts (.fieldLink RX4 35 "EggThrones$Morning" "reigned" "I") (List.mem_of_getElem? (i := 2) rfl)) (fun _ h9 => h9) rfl dX4_passMinuteOfKing_26 ?_
    refine lv_iconst (v := zI 1) hx hb dX4_passMinuteOfKing_29 rfl ?_
    refine zv_iadd hx hb dX4_passMinuteOfKing_30 ?_
    refine va_put (D := D) (ci := 4) (v := .int (zI ((σ21.1 20) + 1))) (ty := .int) (C := RX4) (T := TX4) (N := 9) hx hb hts (fun _ h => List.mem_cons_of_mem _ (List.mem_append_left _ (List.mem_append_right _ h))) tyX4 tyX4_ok nmX4 hown hK hw.1 hw.2.1 hw.2.2 15 rfl rfl 7 (by decide) (hts (.fieldLink RX4 35 "EggThrones$Morning" "reigned" "I") (List.mem_of_getElem? (i := 2) rfl)) (fun _ h9 => h9) rfl (by decide +kernel) rfl rfl (Nat.le_of_ble_eq_true rfl) dX4_passMinuteOfKing_31 (fun H locs hP hD hS => ?_)
    have hw : Wd D A s (wE q cI cZ (sI σ21 20 ((σ21.1 20) + 1))) H locs := wdiE_20 hP hD hS
    obtain ⟨σ31, e31, hf⟩ := nm_s hf
    replace hf := bt_s hf
    rw [← e31] at hw
    refine lv_aload_n hx hb dX4_passMinuteOfKing_34 rfl (lv_at hl 0 rfl) ?_
    refine lv_dup hx hb dX4_passMinuteOfKing_35 rfl ?_
    refine va_get (D := D) (ci := 4) (v := .int (zI (σ31.1 17))) (C := RX4) (T := TX4) (N := 9) hx hb hts (fun _ h => List.mem_cons_of_mem _ (List.mem_append_left _ (List.mem_append_right _ h))) hown hK hw.1 15 rfl rfl 4 (by decide) (hts (.fieldLink RX4 26 "EggThrones$Morning" "left" "I") (List.mem_of_getElem? (i := 3) rfl)) (fun _ h9 => h9) rfl dX4_passMinuteOfKing_36 ?_
    refine lv_iconst (v := zI 1) hx hb dX4_passMinuteOfKing_39 rfl ?_
    refine zv_isub hx hb dX4_passMinuteOfKing_40 ?_
    refine va_put (D := D) (ci := 4) (v := .int (zI ((σ31.1 17) - 1))) (ty := .int) (C := RX4) (T := TX4) (N := 9) hx hb hts (fun _ h => List.mem_cons_of_mem _ (List.mem_append_left _ (List.mem_append_right _ h))) tyX4 tyX4_ok nmX4 hown hK hw.1 hw.2.1 hw.2.2 15 rfl rfl 4 (by decide) (hts (.fieldLink RX4 26 "EggThrones$Morning" "left" "I") (List.mem_of_getElem? (i := 3) rfl)) (fun _ h9 => h9) rfl (by decide +kernel) rfl rfl (Nat.le_of_ble_eq_true rfl) dX4_passMinuteOfKing_41 (fun H locs hP hD hS => ?_)
    have hw : Wd D A s (wE q cI cZ (sI σ31 17 ((σ31.1 17) - 1))) H locs := wdiE_17 hP hD hS
    obtain ⟨σ41, e41, hf⟩ := nm_s hf
    replace hf := bt_s hf
    rw [← e41] at hw
    refine lv_aload_n hx hb dX4_passMinuteOfKing_44 rfl (lv_at hl 0 rfl) ?_
    refine va_get (D := D) (ci := 4) (v := .int (zI (σ41.1 17))) (C := RX4) (T := TX4) (N := 9) hx hb hts (fun _ h => List.mem_cons_of_mem _ (List.mem_append_left _ (List.mem_append_right _ h))) hown hK hw.1 15 rfl rfl 4 (by decide) (hts (.fieldLink RX4 26 "EggThrones$Morning" "left" "I") (List.mem_of_getElem? (i := 3) rfl)) (fun _ h9 => h9) rfl dX4_passMinuteOfKing_45 ?_
    obtain ⟨hg48, hf⟩ := gd_s hf
    refine zv_if_gt (tgt := 66) hx hb hg48 dX4_passMinuteOfKing_48 (by decide) (fun (c48 : 0 < (σ41.1 17)) => ?_) (fun (c48 : ¬ (0 < (σ41.1 17))) => ?_)
    · rw [if_pos c48] at hf
      cases hf
      exact hret H locs ls 66 dX4_passMinuteOfKing_66 hw
    · rw [if_neg c48] at hf
      refine lv_aload_n hx hb dX4_passMinuteOfKing_51 rfl (lv_at hl 0 rfl) ?_
      refine lv_dup hx hb dX4_passMinuteOfKing_52 rfl ?_
      refine va_get (D := D) (ci := 4) (v := .int (zI (σ41.1 21))) (C := RX4) (T := TX4) (N := 9) hx hb hts (fun _ h => List.mem_cons_of_mem _ (List.mem_append_left _ (List.mem_append_right _ h))) hown hK hw.1 15 rfl rfl 8 (by decide) (hts (.fieldLink RX4 38 "EggThrones$Morning" "scraped" "I") (List.mem_of_getElem? (i := 4) rfl)) (fun _ h9 => h9) rfl dX4_passMinuteOfKing_53 ?_
      refine lv_iconst (v := zI 1) hx hb dX4_passMinuteOfKing_56 rfl ?_
      refine zv_iadd hx hb dX4_passMinuteOfKing_57 ?_
      refine va_put (D := D) (ci := 4) (v := .int (zI ((σ41.1 21) + 1))) (ty := .int) (C := RX4) (T := TX4) (N := 9) hx hb hts (fun _ h => List.mem_cons_of_mem _ (List.mem_append_left _ (List.mem_append_right _ h))) tyX4 tyX4_ok nmX4 hown hK hw.1 hw.2.1 hw.2.2 15 rfl rfl 8 (by decide) (hts (.fieldLink RX4 38 "EggThrones$Morning" "scraped" "I") (List.mem_of_getElem? (i := 4) rfl)) (fun _ h9 => h9) rfl (by decide +kernel) rfl rfl (Nat.le_of_ble_eq_true rfl) dX4_passMinuteOfKing_58 (fun H locs hP hD hS => ?_)
      have hw : Wd D A s (wE q cI cZ (sI σ41 21 ((σ41.1 21) + 1))) H locs := wdiE_21 hP hD hS
      obtain ⟨σ58, e58, hf⟩ := nm_s hf
      replace hf := bt_s hf
      rw [← e58] at hw
      refine lv_aload_n hx hb dX4_passMinuteOfKing_61 rfl (lv_at hl 0 rfl) ?_
      refine lv_iconst (v := zI 4) hx hb dX4_passMinuteOfKing_62 rfl ?_
      obtain ⟨σ63, h63, hf⟩ := bd_s hf
      replace hf := bt_s hf
      refine gVv (As := [.int (zI 4)]) (rest := []) C hw (tX4_endReign h63) (cwV 1 hts gX4_passMinuteOfKing_X4_endReign rfl rfl rfl (by decide +kernel) ⟨Nat.le_of_ble_eq_true rfl, Nat.le_of_ble_eq_true rfl⟩) 4 15 rfl rfl rfl hl.1 rfl (Nat.le_of_ble_eq_true rfl) dX4_passMinuteOfKing_63 (fun H locs hw => ?_)
      cases hf
      exact hret H locs ls 66 dX4_passMinuteOfKing_66 hw
  · rw [if_neg c5] at hf
    refine lv_aload_n hx hb dX4_passMinuteOfKing_8 rfl (lv_at hl 0 rfl) ?_
    refine lv_iconst (v := zI 0) hx hb dX4_passMinuteOfKing_9 rfl ?_
    obtain ⟨σ10, h10, hf⟩ := bd_s hf
    replace hf := bt_s hf
    refine gVv (As := [.int (zI 0)]) (rest := []) C hw (tX4_endReign h10) (cwV 1 hts gX4_passMinuteOfKing_X4_endReign rfl rfl rfl (by decide +kernel) ⟨Nat.le_of_ble_eq_true rfl, Nat.le_of_ble_eq_true rfl⟩) 4 15 rfl rfl rfl hl.1 rfl (Nat.le_of_ble_eq_true rfl) dX4_passMinuteOfKing_10 (fun H locs hw => ?_)
    cases hf
    exact hret H locs ls 13 dX4_passMinuteOfKing_13 hw
set_option maxHeartbeats 4000000 in
set_option maxRecDepth 100000 in
theorem tX4_passMinuteOfKing {l : Launch} {D : va_G} {A : Nat → Prop} {cI cZ : ClassId} {q : Nat → Nat} {σ : St} {τ : St} (hf : pX4_passMinuteOfKing σ = some τ) : Met l yX4_passMinuteOfKing wsX4_passMinuteOfKing rmX4_passMinuteOfKing (va_Pc [.ref (q 15)] (CX D (TY cI cZ) A (wE q cI cZ σ))) (QV D (TY cI cZ) A (wE q cI cZ τ)) 0 0 A := by
  refine opn (cc := cX4_passMinuteOfKing) (maxL := 1) (ret := none) (by decide) rfl (Nat.le_of_ble_eq_true rfl) (fun p e s m below meth c C ls hw hl => ?_)
  have hl : lv_has ls 1 [(0, .ref (q 15))] := hl
  rw [pX4_passMinuteOfKing] at hf
  exact wX4_passMinuteOfKing_0 C (rtV C) σ _ _ ls hw (lv_sub hl [0] rfl) hf
abbrev rmX4_boilOneMore : Room := { frames := 1, cells := 0, slots := 0, locals := 21 }
set_option maxHeartbeats 4000000 in
set_option maxRecDepth 100000 in
theorem wX4_boilOneMore_47 {p : Program} {l : Launch} {e : Env} {s : State} {m : MethodId} {args : Array Value} {below : List Frame} {meth : Method} {c : Code} {D : va_G} {A : Nat → Prop} {q : Nat → Nat} {cI cZ : ClassId} {Q : State → Prop} {τ : St} (C : Cx p s m args meth c D (TY cI cZ) cX4_boilOneMore none 2 wsX4_boilOneMore RX4) (hret : RtV p l e rmX4_boilOneMore s m args below meth c D A cX4_boilOneMore Q (wE q cI cZ τ)) :
    ∀ (σ : St) (t1 : Int) (t2 : Int) (H : Heap) (locs : List Loc) (ls : Array Slot), Wd D A s (wE q cI cZ σ) H locs → lv_has ls 2 [] → pX4_boilOneMore_47 σ t1 t2 = some τ → W p l e rmX4_boilOneMore s m args below meth c H locs 0 0 Q (F0 m 47 ls [.int (zI t2), .int (zI t1), .ref (q 16)]) := by
  obtain ⟨hx, hb, hr, hml, hown, hts, hlk, hK, hN⟩ := id C
  intro σ t1 t2 H locs ls hw hl hf
  rw [pX4_boilOneMore_47] at hf
  obtain ⟨hi47, hf⟩ := gd_s hf
  refine zv_iast (D := D) hx hb hK hw.1 hw.2.1 hw.2.2 16 0 rfl rfl hi47 (by decide) dX4_boilOneMore_47 (fun H locs hP hD hS => ?_)
  have hw : Wd D A s (wE q cI cZ (sA σ 11 (va_up (σ.2 11) (Int.toNat t1) t2))) H locs := wdaE_11 hP hD hS
  obtain ⟨σ47, e47, hf⟩ := nm_s hf
  replace hf := bt_s hf
  rw [← e47] at hw
  cases hf
  exact hret H locs ls 48 dX4_boilOneMore_48 hw
set_option maxHeartbeats 4000000 in
set_option maxRecDepth 100000 in
theorem wX4_boilOneMore_0 {p : Program} {l : Launch} {e : Env} {s : State} {m : MethodId} {args : Array Value} {below : List Frame} {meth : Method} {c : Code} {D : va_G} {A : Nat → Prop} {q : Nat → Nat} {cI cZ : ClassId} {Q : State → Prop} {τ : St} (C : Cx p s m args meth c D (TY cI cZ) cX4_boilOneMore none 2 wsX4_boilOneMore RX4) (hret : RtV p l e rmX4_boilOneMore s m args below meth c D A cX4_boilOneMore Q (wE q cI cZ τ)) :
    ∀ (σ : St) (x1 : Int) (H : Heap) (locs : List Loc) (ls : Array Slot), Wd D A s (wE q cI cZ σ) H locs → lv_has ls 2 [(0, .ref (q 15)), (1, .int (zI x1))] → pX4_boilOneMore_0 σ x1 = some τ → W p l e rmX4_boilOneMore s m args below meth c H locs 0 0 Q (F0 m 0 ls []) := by
  obtain ⟨hx, hb, hr, hml, hown, hts, hlk, hK, hN⟩ := id C
  intro σ x1 H locs ls hw hl hf
  rw [pX4_boilOneMore_0] at hf
  refine lv_aload_n hx hb dX4_boilOneMore_0 rfl (lv_at hl 0 rfl) ?_
  refine va_get (D := D) (ci := 4) (v := .ref (q 1)) (C := RX4) (T := TX4) (N := 9) hx hb hts (fun _ h => List.mem_cons_of_mem _ (List.mem_append_left _ (List.mem_append_right _ h))) hown hK hw.1 15 rfl rfl 0 (by decide) (hts (.fieldLink RX4 9 "EggThrones$Morning" "table" "LEggThrones$Table;") (List.mem_of_getElem? (i := 1) rfl)) (fun _ h9 => h9) rfl dX4_boilOneMore_1 ?_
  refine lv_iload_n hx hb dX4_boilOneMore_4 rfl (lv_at hl 1 rfl) ?_
  obtain ⟨r5, h5, hf⟩ := bd_s hf
  replace hf := bt_s hf
  refine gVi (As := [.int (zI x1)]) (rest := []) C hw (tX8_hasEgg_c1 h5) (cwV 1 hts gX4_boilOneMore_X8_hasEgg rfl rfl rfl (by decide +kernel) ⟨Nat.le_of_ble_eq_true rfl, Nat.le_of_ble_eq_true rfl⟩) 8 1 rfl rfl rfl hl.1 rfl (Nat.le_of_ble_eq_true rfl) dX4_boilOneMore_5 (fun H locs hw => ?_)
  obtain ⟨hg8, hf⟩ := gd_s hf
  refine zv_if_eq (tgt := 48) hx hb hg8 dX4_boilOneMore_8 (by decide) (fun (c8 : r5 = 0) => ?_) (fun (c8 : ¬ (r5 = 0)) => ?_)
  · rw [if_pos c8] at hf
    cases hf
    exact hret H locs ls 48 dX4_boilOneMore_48 hw
  · rw [if_neg c8] at hf
    refine lv_aload_n hx hb dX4_boilOneMore_11 rfl (lv_at hl 0 rfl) ?_
    refine va_get (D := D) (ci := 4) (v := .ref (q 17)) (C := RX4) (T := TX4) (N := 9) hx hb hts (fun _ h => List.mem_cons_of_mem _ (List.mem_append_left _ (List.mem_append_right _ h))) hown hK hw.1 15 rfl rfl 2 (by decide) (hts (.fieldLink RX4 19 "EggThrones$Morning" "boiled" "[I") (List.mem_of_getElem? (i := 2) rfl)) (fun _ h9 => h9) rfl dX4_boilOneMore_12 ?_
    refine lv_iload_n hx hb dX4_boilOneMore_15 rfl (lv_at hl 1 rfl) ?_
    refine lv_dup2_11 hx hb dX4_boilOneMore_16 rfl rfl ?_
    obtain ⟨hi17, hf⟩ := gd_s hf
    refine zv_iald (D := D) hx hb hK hw.1 17 0 rfl rfl hi17 (by decide) dX4_boilOneMore_17 ?_
    refine lv_iconst (v := zI 1) hx hb dX4_boilOneMore_18 rfl ?_
    refine zv_iadd hx hb dX4_boilOneMore_19 ?_
    obtain ⟨hi20, hf⟩ := gd_s hf
    refine zv_iast (D := D) hx hb hK hw.1 hw.2.1 hw.2.2 17 0 rfl rfl hi20 (by decide) dX4_boilOneMore_20 (fun H locs hP hD hS => ?_)
    have hw : Wd D A s (wE q cI cZ (sA σ 12 (va_up (σ.2 12) (Int.toNat x1) ((σ.2 12 (Int.toNat x1)) + 1)))) H locs := wdaE_12 hP hD hS
    obtain ⟨σ20, e20, hf⟩ := nm_s hf
    replace hf := bt_s hf
    rw [← e20] at hw
    refine lv_aload_n hx hb dX4_boilOneMore_21 rfl (lv_at hl 0 rfl) ?_
    refine va_get (D := D) (ci := 4) (v := .ref (q 16)) (C := RX4) (T := TX4) (N := 9) hx hb hts (fun _ h => List.mem_cons_of_mem _ (List.mem_append_left _ (List.mem_append_right _ h))) hown hK hw.1 15 rfl rfl 1 (by decide) (hts (.fieldLink RX4 15 "EggThrones$Morning" "states" "[I") (List.mem_of_getElem? (i := 3) rfl)) (fun _ h9 => h9) rfl dX4_boilOneMore_22 ?_
    refine lv_iload_n hx hb dX4_boilOneMore_25 rfl (lv_at hl 1 rfl) ?_
    refine lv_aload_n hx hb dX4_boilOneMore_26 rfl (lv_at hl 0 rfl) ?_
    refine va_get (D := D) (ci := 4) (v := .ref (q 17)) (C := RX4) (T := TX4) (N := 9) hx hb hts (fun _ h => List.mem_cons_of_mem _ (List.mem_append_left _ (List.mem_append_right _ h))) hown hK hw.1 15 rfl rfl 2 (by decide) (hts (.fieldLink RX4 19 "EggThrones$Morning" "boiled" "[I") (List.mem_of_getElem? (i := 2) rfl)) (fun _ h9 => h9) rfl dX4_boilOneMore_27 ?_
    refine lv_iload_n hx hb dX4_boilOneMore_30 rfl (lv_at hl 1 rfl) ?_
    obtain ⟨hi31, hf⟩ := gd_s hf
    refine zv_iald (D := D) hx hb hK hw.1 17 0 rfl rfl hi31 (by decide) dX4_boilOneMore_31 ?_
    refine lv_aload_n hx hb dX4_boilOneMore_32 rfl (lv_at hl 0 rfl) ?_
    refine va_get (D := D) (ci := 4) (v := .ref (q 1)) (C := RX4) (T := TX4) (N := 9) hx hb hts (fun _ h => List.mem_cons_of_mem _ (List.mem_append_left _ (List.mem_append_right _ h))) hown hK hw.1 15 rfl rfl 0 (by decide) (hts (.fieldLink RX4 9 "EggThrones$Morning" "table" "LEggThrones$Table;") (List.mem_of_getElem? (i := 1) rfl)) (fun _ h9 => h9) rfl dX4_boilOneMore_33 ?_
    refine va_getN (D := D) (ci := 8) (v := .int (zI (σ20.1 4))) (C := RX8) (T := TX8) (N := 10) hx hb hts (fun _ h => List.mem_cons_of_mem _ (List.mem_append_right _ h)) hown hK hw.1 1 rfl rfl 2 (by decide) (va_Nw.use rfl (hN (.fieldLinkNest "EggThrones$Morning" 96 "EggThrones$Table" "limit" "I" "EggThrones") (by decide +kernel))) (fun _ h9 => h9) rfl dX4_boilOneMore_36 ?_
    obtain ⟨hg39, hf⟩ := gd_s hf
    refine zv_icmp_le (tgt := 46) hx hb hg39 dX4_boilOneMore_39 (by decide) (fun (c39 : (σ20.2 12 (Int.toNat x1)) ≤ (σ20.1 4)) => ?_) (fun (c39 : ¬ ((σ20.2 12 (Int.toNat x1)) ≤ (σ20.1 4))) => ?_)
    · rw [if_pos c39] at hf
      refine lv_iconst (v := zI 1) hx hb dX4_boilOneMore_46 rfl ?_
      exact wX4_boilOneMore_47 C hret σ20 x1 1 H locs ls hw (lv_sub hl [] rfl) hf
    · rw [if_neg c39] at hf
      refine lv_iconst (v := zI 5) hx hb dX4_boilOneMore_42 rfl ?_
      refine lv_goto (tgt := 47) hx hb dX4_boilOneMore_43 (by decide) ?_
      exact wX4_boilOneMore_47 C hret σ20 x1 5 H locs ls hw (lv_sub hl [] rfl) hf
set_option maxHeartbeats 4000000 in
set_option maxRecDepth 100000 in
theorem tX4_boilOneMore {l : Launch} {D : va_G} {A : Nat → Prop} {cI cZ : ClassId} {q : Nat → Nat} {σ : St} {x1 : Int} {τ : St} (hf : pX4_boilOneMore σ x1 = some τ) : Met l yX4_boilOneMore wsX4_boilOneMore rmX4_boilOneMore (va_Pc [.ref (q 15), .int (zI x1)] (CX D (TY cI cZ) A (wE q cI cZ σ))) (QV D (TY cI cZ) A (wE q cI cZ τ)) 0 0 A := by
  refine opn (cc := cX4_boilOneMore) (maxL := 2) (ret := none) (by decide) rfl (Nat.le_of_ble_eq_true rfl) (fun p e s m below meth c C ls hw hl => ?_)
  have hl : lv_has ls 2 [(0, .ref (q 15)), (1, .int (zI x1))] := hl
  rw [pX4_boilOneMore] at hf
  exact wX4_boilOneMore_0 C (rtV C) σ x1 _ _ ls hw (lv_sub hl [0, 1] rfl) hf
abbrev rmX4_passMinute : Room := { frames := 4, cells := 0, slots := 0, locals := 84 }
set_option maxHeartbeats 4000000 in
set_option maxRecDepth 100000 in
theorem wX4_passMinute_32 {p : Program} {l : Launch} {e : Env} {s : State} {m : MethodId} {args : Array Value} {below : List Frame} {meth : Method} {c : Code} {D : va_G} {A : Nat → Prop} {q : Nat → Nat} {cI cZ : ClassId} {Q : State → Prop} {τ : St} (C : Cx p s m args meth c D (TY cI cZ) cX4_passMinute none 2 wsX4_passMinute RX4) (hret : RtV p l e rmX4_passMinute s m args below meth c D A cX4_passMinute Q (wE q cI cZ τ)) (k12 : St → Int → Option (St)) (hk12 : ∀ (σ : St) (x1 : Int) (H : Heap) (locs : List Loc) (ls : Array Slot), Wd D A s (wE q cI cZ σ) H locs → lv_has ls 2 [(0, .ref (q 15)), (1, .int (zI x1))] → k12 σ x1 = some τ → W p l e rmX4_passMinute s m args below meth c H locs 0 0 Q (F0 m 12 ls [])) :
    ∀ (σ : St) (x1 : Int) (H : Heap) (locs : List Loc) (ls : Array Slot), Wd D A s (wE q cI cZ σ) H locs → lv_has ls 2 [(0, .ref (q 15)), (1, .int (zI x1))] → pX4_passMinute_32 k12 σ x1 = some τ → W p l e rmX4_passMinute s m args below meth c H locs 0 0 Q (F0 m 32 ls []) := by
  obtain ⟨hx, hb, hr, hml, hown, hts, hlk, hK, hN⟩ := id C
  intro σ x1 H locs ls hw hl hf
  rw [pX4_passMinute_32] at hf
  refine lv_iinc (v := zI (x1 + 1)) (lv' := [(1, .int (zI (x1 + 1))), (0, .ref (q 15))]) hx hb dX4_passMinute_32 hl (k := 1) rfl (zI_add _ _) (by decide) rfl (fun ls hl => ?_)
  refine lv_goto (tgt := 12) hx hb dX4_passMinute_35 (by decide) ?_
  exact hk12 σ (x1 + 1) H locs ls hw (lv_sub hl [1, 0] rfl) hf
set_option maxHeartbeats 4000000 in
set_option maxRecDepth 100000 in
theorem wX4_passMinute_12 {p : Program} {l : Launch} {e : Env} {s : State} {m : MethodId} {args : Array Value} {below : List Frame} {meth : Method} {c : Code} {D : va_G} {A : Nat → Prop} {q : Nat → Nat} {cI cZ : ClassId} {Q : State → Prop} {τ : St} (C : Cx p s m args meth c D (TY cI cZ) cX4_passMinute none 2 wsX4_passMinute RX4) (hret : RtV p l e rmX4_passMinute s m args below meth c D A cX4_passMinute Q (wE q cI cZ τ)) :
    ∀ (n : Nat) (σ : St) (x1 : Int) (H : Heap) (locs : List Loc) (ls : Array Slot), Wd D A s (wE q cI cZ σ) H locs → lv_has ls 2 [(0, .ref (q 15)), (1, .int (zI x1))] → pX4_passMinute_12 n σ x1 = some τ → W p l e rmX4_passMinute s m args below meth c H locs 0 0 Q (F0 m 12 ls []) := by
  obtain ⟨hx, hb, hr, hml, hown, hts, hlk, hK, hN⟩ := id C
  intro n
  induction n with
  | zero =>
    intro σ x1 H locs ls hw hl hf
    exact absurd (show (none : Option (St)) = some τ from hf) (by simp)
  | succ n ih =>
    intro σ x1 H locs ls hw hl hf
    rw [pX4_passMinute_12] at hf
    refine lv_iload_n hx hb dX4_passMinute_12 rfl (lv_at hl 1 rfl) ?_
    refine lv_bipush (v := zI 7) hx hb dX4_passMinute_13 (by decide +kernel) ?_
    obtain ⟨hg15, hf⟩ := gd_s hf
    refine zv_icmp_ge (tgt := 38) hx hb ⟨hg15, by decide⟩ dX4_passMinute_15 (by decide) (fun (c15 : 7 ≤ x1) => ?_) (fun (c15 : ¬ (7 ≤ x1)) => ?_)
    · rw [if_pos c15] at hf
      refine lv_aload_n hx hb dX4_passMinute_38 rfl (lv_at hl 0 rfl) ?_
      refine va_get (D := D) (ci := 4) (v := .int (zI (σ.1 16))) (C := RX4) (T := TX4) (N := 9) hx hb hts (fun _ h => List.mem_cons_of_mem _ (List.mem_append_left _ (List.mem_append_right _ h))) hown hK hw.1 15 rfl rfl 3 (by decide) (hts (.fieldLink RX4 22 "EggThrones$Morning" "king" "I") (List.mem_of_getElem? (i := 2) rfl)) (fun _ h9 => h9) rfl dX4_passMinute_39 ?_
      refine lv_iconst (v := zI (-1)) hx hb dX4_passMinute_42 rfl ?_
      obtain ⟨hg43, hf⟩ := gd_s hf
      refine zv_icmp_eq (tgt := 50) hx hb ⟨hg43, by decide⟩ dX4_passMinute_43 (by decide) (fun (c43 : (σ.1 16) = (-1)) => ?_) (fun (c43 : ¬ ((σ.1 16) = (-1))) => ?_)
      · rw [if_pos c43] at hf
        cases hf
        exact hret H locs ls 50 dX4_passMinute_50 hw
      · rw [if_neg c43] at hf
        refine lv_aload_n hx hb dX4_passMinute_46 rfl (lv_at hl 0 rfl) ?_
        obtain ⟨σ47, h47, hf⟩ := bd_s hf
        replace hf := bt_s hf
        refine gVv (As := []) (rest := []) C hw (tX4_passMinuteOfKing h47) (cwV 0 hts gX4_passMinute_X4_passMinuteOfKing rfl rfl rfl (by decide +kernel) ⟨Nat.le_of_ble_eq_true rfl, Nat.le_of_ble_eq_true rfl⟩) 4 15 rfl rfl rfl hl.1 rfl (Nat.le_of_ble_eq_true rfl) dX4_passMinute_47 (fun H locs hw => ?_)
        cases hf
        exact hret H locs ls 50 dX4_passMinute_50 hw
    · rw [if_neg c15] at hf
      refine lv_aload_n hx hb dX4_passMinute_18 rfl (lv_at hl 0 rfl) ?_
      refine lv_iload_n hx hb dX4_passMinute_19 rfl (lv_at hl 1 rfl) ?_
      obtain ⟨r20, h20, hf⟩ := bd_s hf
      replace hf := bt_s hf
      refine gVi (As := [.int (zI x1)]) (rest := []) C hw (tX4_stateOf h20) (cwV 1 hts gX4_passMinute_X4_stateOf rfl rfl rfl (by decide +kernel) ⟨Nat.le_of_ble_eq_true rfl, Nat.le_of_ble_eq_true rfl⟩) 4 15 rfl rfl rfl hl.1 rfl (Nat.le_of_ble_eq_true rfl) dX4_passMinute_20 (fun H locs hw => ?_)
      refine lv_iconst (v := zI 1) hx hb dX4_passMinute_23 rfl ?_
      obtain ⟨hg24, hf⟩ := gd_s hf
      refine zv_icmp_ne (tgt := 32) hx hb ⟨hg24, by decide⟩ dX4_passMinute_24 (by decide) (fun (c24 : ¬ (r20 = 1)) => ?_) (fun (c24 : r20 = 1) => ?_)
      · rw [if_neg c24] at hf
        exact wX4_passMinute_32 C hret _ ih σ x1 H locs ls hw (lv_sub hl [0, 1] rfl) hf
      · rw [if_pos c24] at hf
        refine lv_aload_n hx hb dX4_passMinute_27 rfl (lv_at hl 0 rfl) ?_
        refine lv_iload_n hx hb dX4_passMinute_28 rfl (lv_at hl 1 rfl) ?_
        obtain ⟨σ29, h29, hf⟩ := bd_s hf
        replace hf := bt_s hf
        refine gVv (As := [.int (zI x1)]) (rest := []) C hw (tX4_boilOneMore h29) (cwV 1 hts gX4_passMinute_X4_boilOneMore rfl rfl rfl (by decide +kernel) ⟨Nat.le_of_ble_eq_true rfl, Nat.le_of_ble_eq_true rfl⟩) 4 15 rfl rfl rfl hl.1 rfl (Nat.le_of_ble_eq_true rfl) dX4_passMinute_29 (fun H locs hw => ?_)
        exact wX4_passMinute_32 C hret _ ih σ29 x1 H locs ls hw (lv_sub hl [0, 1] rfl) hf
set_option maxHeartbeats 4000000 in
set_option maxRecDepth 100000 in
theorem wX4_passMinute_0 {p : Program} {l : Launch} {e : Env} {s : State} {m : MethodId} {args : Array Value} {below : List Frame} {meth : Method} {c : Code} {D : va_G} {A : Nat → Prop} {q : Nat → Nat} {cI cZ : ClassId} {Q : State → Prop} {τ : St} (C : Cx p s m args meth c D (TY cI cZ) cX4_passMinute none 2 wsX4_passMinute RX4) (hret : RtV p l e rmX4_passMinute s m args below meth c D A cX4_passMinute Q (wE q cI cZ τ)) :
    ∀ (σ : St) (H : Heap) (locs : List Loc) (ls : Array Slot), Wd D A s (wE q cI cZ σ) H locs → lv_has ls 2 [(0, .ref (q 15))] → pX4_passMinute_0 σ = some τ → W p l e rmX4_passMinute s m args below meth c H locs 0 0 Q (F0 m 0 ls []) := by
  obtain ⟨hx, hb, hr, hml, hown, hts, hlk, hK, hN⟩ := id C
  intro σ H locs ls hw hl hf
  rw [pX4_passMinute_0] at hf
  refine lv_aload_n hx hb dX4_passMinute_0 rfl (lv_at hl 0 rfl) ?_
  refine lv_dup hx hb dX4_passMinute_1 rfl ?_
  refine va_get (D := D) (ci := 4) (v := .int (zI (σ.1 19))) (C := RX4) (T := TX4) (N := 9) hx hb hts (fun _ h => List.mem_cons_of_mem _ (List.mem_append_left _ (List.mem_append_right _ h))) hown hK hw.1 15 rfl rfl 6 (by decide) (hts (.fieldLink RX4 32 "EggThrones$Morning" "minutes" "I") (List.mem_of_getElem? (i := 1) rfl)) (fun _ h9 => h9) rfl dX4_passMinute_2 ?_
  refine lv_iconst (v := zI 1) hx hb dX4_passMinute_5 rfl ?_
  refine zv_iadd hx hb dX4_passMinute_6 ?_
  refine va_put (D := D) (ci := 4) (v := .int (zI ((σ.1 19) + 1))) (ty := .int) (C := RX4) (T := TX4) (N := 9) hx hb hts (fun _ h => List.mem_cons_of_mem _ (List.mem_append_left _ (List.mem_append_right _ h))) tyX4 tyX4_ok nmX4 hown hK hw.1 hw.2.1 hw.2.2 15 rfl rfl 6 (by decide) (hts (.fieldLink RX4 32 "EggThrones$Morning" "minutes" "I") (List.mem_of_getElem? (i := 1) rfl)) (fun _ h9 => h9) rfl (by decide +kernel) rfl rfl (Nat.le_of_ble_eq_true rfl) dX4_passMinute_7 (fun H locs hP hD hS => ?_)
  have hw : Wd D A s (wE q cI cZ (sI σ 19 ((σ.1 19) + 1))) H locs := wdiE_19 hP hD hS
  obtain ⟨σ7, e7, hf⟩ := nm_s hf
  replace hf := bt_s hf
  rw [← e7] at hw
  refine lv_iconst (v := zI 0) hx hb dX4_passMinute_10 rfl ?_
  refine lv_istore_n (lv' := [(1, .int (zI 0)), (0, .ref (q 15))]) hx hb dX4_passMinute_11 rfl hl (by decide) rfl (fun ls hl => ?_)
  exact wX4_passMinute_12 C hret FU σ7 0 H locs ls hw (lv_sub hl [1, 0] rfl) hf
set_option maxHeartbeats 4000000 in
set_option maxRecDepth 100000 in
theorem tX4_passMinute {l : Launch} {D : va_G} {A : Nat → Prop} {cI cZ : ClassId} {q : Nat → Nat} {σ : St} {τ : St} (hf : pX4_passMinute σ = some τ) : Met l yX4_passMinute wsX4_passMinute rmX4_passMinute (va_Pc [.ref (q 15)] (CX D (TY cI cZ) A (wE q cI cZ σ))) (QV D (TY cI cZ) A (wE q cI cZ τ)) 0 0 A := by
  refine opn (cc := cX4_passMinute) (maxL := 2) (ret := none) (by decide) rfl (Nat.le_of_ble_eq_true rfl) (fun p e s m below meth c C ls hw hl => ?_)
  have hl : lv_has ls 2 [(0, .ref (q 15))] := hl
  rw [pX4_passMinute] at hf
  exact wX4_passMinute_0 C (rtV C) σ _ _ ls hw (lv_sub hl [0] rfl) hf
abbrev rmX8_isLaid_c1 : Room := { frames := 0, cells := 0, slots := 0, locals := 0 }
set_option maxHeartbeats 4000000 in
set_option maxRecDepth 100000 in
theorem wX8_isLaid_c1_0 {p : Program} {l : Launch} {e : Env} {s : State} {m : MethodId} {args : Array Value} {below : List Frame} {meth : Method} {c : Code} {D : va_G} {A : Nat → Prop} {q : Nat → Nat} {cI cZ : ClassId} {Q : State → Prop} {σ : St} {r : Int} (C : Cx p s m args meth c D (TY cI cZ) cX8_isLaid (some .boolean) 1 wsX8_isLaid RX8) (hret : RtZ p l e rmX8_isLaid_c1 s m args below meth c D A cX8_isLaid Q (wE q cI cZ σ) (zI r)) :
    ∀ (H : Heap) (locs : List Loc) (ls : Array Slot), Wd D A s (wE q cI cZ σ) H locs → lv_has ls 1 [(0, .ref (q 1))] → pX8_isLaid_c1_0 σ = some r → W p l e rmX8_isLaid_c1 s m args below meth c H locs 0 0 Q (F0 m 0 ls []) := by
  obtain ⟨hx, hb, hr, hml, hown, hts, hlk, hK, hN⟩ := id C
  intro H locs ls hw hl hf
  rw [pX8_isLaid_c1_0] at hf
  refine lv_aload_n hx hb dX8_isLaid_0 rfl (lv_at hl 0 rfl) ?_
  refine va_get (D := D) (ci := 8) (v := .int (zI (σ.1 2))) (C := RX8) (T := TX8) (N := 10) hx hb hts (fun _ h => List.mem_cons_of_mem _ (List.mem_append_right _ h)) hown hK hw.1 1 rfl rfl 0 (by decide) (hts (.fieldLink RX8 27 "EggThrones$Table" "places" "I") (List.mem_of_getElem? (i := 1) rfl)) (fun _ h9 => h9) rfl dX8_isLaid_1 ?_
  obtain ⟨hg4, hf⟩ := gd_s hf
  refine zv_if_le (tgt := 11) hx hb hg4 dX8_isLaid_4 (by decide) (fun (c4 : (σ.1 2) ≤ 0) => ?_) (fun (c4 : ¬ ((σ.1 2) ≤ 0)) => ?_)
  · rw [if_pos c4] at hf
    refine lv_iconst (v := zI 0) hx hb dX8_isLaid_11 rfl ?_
    cases hf
    exact hret H locs ls 12 dX8_isLaid_12 (by decide +kernel) hw
  · rw [if_neg c4] at hf
    refine lv_iconst (v := zI 1) hx hb dX8_isLaid_7 rfl ?_
    refine lv_goto (tgt := 12) hx hb dX8_isLaid_8 (by decide) ?_
    cases hf
    exact hret H locs ls 12 dX8_isLaid_12 (by decide +kernel) hw
set_option maxHeartbeats 4000000 in
set_option maxRecDepth 100000 in
theorem tX8_isLaid_c1 {l : Launch} {D : va_G} {A : Nat → Prop} {cI cZ : ClassId} {q : Nat → Nat} {σ : St} {r : Int} (hf : pX8_isLaid_c1 σ = some r) : Met l yX8_isLaid wsX8_isLaid rmX8_isLaid_c1 (va_Pc [.ref (q 1)] (CX D (TY cI cZ) A (wE q cI cZ σ))) (QI D (TY cI cZ) A (wE q cI cZ σ) (zI r)) 0 0 A := by
  refine opn (cc := cX8_isLaid) (maxL := 1) (ret := (some .boolean)) (by decide) rfl (Nat.le_of_ble_eq_true rfl) (fun p e s m below meth c C ls hw hl => ?_)
  have hl : lv_has ls 1 [(0, .ref (q 1))] := hl
  rw [pX8_isLaid_c1] at hf
  exact wX8_isLaid_c1_0 C (rtZ C) _ _ ls hw (lv_sub hl [0] rfl) hf
abbrev rmX10_refusalOfMinutes : Room := { frames := 1, cells := 0, slots := 0, locals := 22 }
set_option maxHeartbeats 4000000 in
set_option maxRecDepth 100000 in
theorem wX10_refusalOfMinutes_0 {p : Program} {l : Launch} {e : Env} {s : State} {m : MethodId} {args : Array Value} {below : List Frame} {meth : Method} {c : Code} {D : va_G} {A : Nat → Prop} {q : Nat → Nat} {cI cZ : ClassId} {Q : State → Prop} {σ : St} {r : Int} (C : Cx p s m args meth c D (TY cI cZ) cX10_refusalOfMinutes (some .int) 2 wsX10_refusalOfMinutes RX10) (hret : RtI p l e rmX10_refusalOfMinutes s m args below meth c D A cX10_refusalOfMinutes Q (wE q cI cZ σ) (zI r)) :
    ∀ (x1 : Int) (H : Heap) (locs : List Loc) (ls : Array Slot), Wd D A s (wE q cI cZ σ) H locs → lv_has ls 2 [(0, .ref (q 0)), (1, .int (zI x1))] → pX10_refusalOfMinutes_0 σ x1 = some r → W p l e rmX10_refusalOfMinutes s m args below meth c H locs 0 0 Q (F0 m 0 ls []) := by
  obtain ⟨hx, hb, hr, hml, hown, hts, hlk, hK, hN⟩ := id C
  intro x1 H locs ls hw hl hf
  rw [pX10_refusalOfMinutes_0] at hf
  refine lv_iload_n hx hb dX10_refusalOfMinutes_0 rfl (lv_at hl 1 rfl) ?_
  refine lv_iconst (v := zI 1) hx hb dX10_refusalOfMinutes_1 rfl ?_
  refine lv_bipush (v := zI 60) hx hb dX10_refusalOfMinutes_2 (by decide +kernel) ?_
  obtain ⟨r4, h4, hf⟩ := bd_s hf
  replace hf := bt_s hf
  refine gSi (As := [.int (zI x1), .int (zI 1), .int (zI 60)]) (rest := []) C hw (tX10_isWithin h4) (va_cwS 3 hts gX10_refusalOfMinutes_X10_isWithin rfl rfl rfl (by decide +kernel) ⟨Nat.le_of_ble_eq_true rfl, Nat.le_of_ble_eq_true rfl⟩) rfl hl.1 rfl (Nat.le_of_ble_eq_true rfl) dX10_refusalOfMinutes_4 (fun H locs hw => ?_)
  obtain ⟨hg7, hf⟩ := gd_s hf
  refine zv_if_ne (tgt := 13) hx hb hg7 dX10_refusalOfMinutes_7 (by decide) (fun (c7 : ¬ (r4 = 0)) => ?_) (fun (c7 : r4 = 0) => ?_)
  · rw [if_neg c7] at hf
    refine lv_aload_n hx hb dX10_refusalOfMinutes_13 rfl (lv_at hl 0 rfl) ?_
    refine va_get (D := D) (ci := 10) (v := .ref (q 1)) (C := RX10) (T := TX10) (N := 13) hx hb hts (fun _ h => List.mem_cons_of_mem _ (List.mem_append_left _ (List.mem_append_left _ (List.mem_append_right _ h)))) hown hK hw.1 0 rfl rfl 1 (by decide) (hts (.fieldLink RX10 19 "EggThrones" "laid" "LEggThrones$Table;") (List.mem_of_getElem? (i := 2) rfl)) (fun _ h9 => h9) rfl dX10_refusalOfMinutes_14 ?_
    obtain ⟨r17, h17, hf⟩ := bd_s hf
    replace hf := bt_s hf
    refine gVi (As := []) (rest := []) C hw (tX8_isLaid_c1 h17) (cwV 0 hts gX10_refusalOfMinutes_X8_isLaid rfl rfl rfl (by decide +kernel) ⟨Nat.le_of_ble_eq_true rfl, Nat.le_of_ble_eq_true rfl⟩) 8 1 rfl rfl rfl hl.1 rfl (Nat.le_of_ble_eq_true rfl) dX10_refusalOfMinutes_17 (fun H locs hw => ?_)
    obtain ⟨hg20, hf⟩ := gd_s hf
    refine zv_if_ne (tgt := 26) hx hb hg20 dX10_refusalOfMinutes_20 (by decide) (fun (c20 : ¬ (r17 = 0)) => ?_) (fun (c20 : r17 = 0) => ?_)
    · rw [if_neg c20] at hf
      refine lv_aload_n hx hb dX10_refusalOfMinutes_26 rfl (lv_at hl 0 rfl) ?_
      refine va_get (D := D) (ci := 10) (v := .ref (q 15)) (C := RX10) (T := TX10) (N := 13) hx hb hts (fun _ h => List.mem_cons_of_mem _ (List.mem_append_left _ (List.mem_append_left _ (List.mem_append_right _ h)))) hown hK hw.1 0 rfl rfl 3 (by decide) (hts (.fieldLink RX10 31 "EggThrones" "now" "LEggThrones$Morning;") (List.mem_of_getElem? (i := 4) rfl)) (fun _ h9 => h9) rfl dX10_refusalOfMinutes_27 ?_
      refine va_getN (D := D) (ci := 4) (v := .int (zI (σ.1 19))) (C := RX4) (T := TX4) (N := 9) hx hb hts (fun _ h => List.mem_cons_of_mem _ (List.mem_append_left _ (List.mem_append_right _ h))) hown hK hw.1 15 rfl rfl 6 (by decide) (va_Nw.use rfl (hN (.fieldLinkNest "EggThrones" 142 "EggThrones$Morning" "minutes" "I" "EggThrones") (by decide +kernel))) (fun _ h9 => h9) rfl dX10_refusalOfMinutes_30 ?_
      refine lv_sipush (v := zI 9000) hx hb dX10_refusalOfMinutes_33 (by decide +kernel) ?_
      obtain ⟨hg36, hf⟩ := gd_s hf
      refine zv_icmp_le (tgt := 44) hx hb ⟨hg36, by decide⟩ dX10_refusalOfMinutes_36 (by decide) (fun (c36 : (σ.1 19) ≤ 9000) => ?_) (fun (c36 : ¬ ((σ.1 19) ≤ 9000)) => ?_)
      · rw [if_pos c36] at hf
        refine lv_iconst (v := zI 0) hx hb dX10_refusalOfMinutes_44 rfl ?_
        cases hf
        exact hret H locs ls 45 dX10_refusalOfMinutes_45 hw
      · rw [if_neg c36] at hf
        refine zv_ldc hx hb (-1000000004) (by decide +kernel) hown (hts (.constant RX10 104 (-1000000004)) (List.mem_of_getElem? (i := 5) rfl)) dX10_refusalOfMinutes_39 ?_
        refine lv_goto (tgt := 45) hx hb dX10_refusalOfMinutes_41 (by decide) ?_
        cases hf
        exact hret H locs ls 45 dX10_refusalOfMinutes_45 hw
    · rw [if_pos c20] at hf
      refine zv_ldc hx hb (-1000000003) (by decide +kernel) hown (hts (.constant RX10 219 (-1000000003)) (List.mem_of_getElem? (i := 3) rfl)) dX10_refusalOfMinutes_23 ?_
      cases hf
      exact hret H locs ls 25 dX10_refusalOfMinutes_25 hw
  · rw [if_pos c7] at hf
    refine zv_ldc hx hb (-1000000002) (by decide +kernel) hown (hts (.constant RX10 95 (-1000000002)) (List.mem_of_getElem? (i := 1) rfl)) dX10_refusalOfMinutes_10 ?_
    cases hf
    exact hret H locs ls 12 dX10_refusalOfMinutes_12 hw
set_option maxHeartbeats 4000000 in
set_option maxRecDepth 100000 in
theorem tX10_refusalOfMinutes {l : Launch} {D : va_G} {A : Nat → Prop} {cI cZ : ClassId} {q : Nat → Nat} {σ : St} {x1 : Int} {r : Int} (hf : pX10_refusalOfMinutes σ x1 = some r) : Met l yX10_refusalOfMinutes wsX10_refusalOfMinutes rmX10_refusalOfMinutes (va_Pc [.ref (q 0), .int (zI x1)] (CX D (TY cI cZ) A (wE q cI cZ σ))) (QI D (TY cI cZ) A (wE q cI cZ σ) (zI r)) 0 0 A := by
  refine opn (cc := cX10_refusalOfMinutes) (maxL := 2) (ret := (some .int)) (by decide) rfl (Nat.le_of_ble_eq_true rfl) (fun p e s m below meth c C ls hw hl => ?_)
  have hl : lv_has ls 2 [(0, .ref (q 0)), (1, .int (zI x1))] := hl
  rw [pX10_refusalOfMinutes] at hf
  exact wX10_refusalOfMinutes_0 C (rtI C) x1 _ _ ls hw (lv_sub hl [0, 1] rfl) hf
abbrev rmX4_isRow_a19 : Room := { frames := 0, cells := 0, slots := 0, locals := 0 }
set_option maxHeartbeats 4000000 in
set_option maxRecDepth 100000 in
theorem wX4_isRow_a19_0 {p : Program} {l : Launch} {e : Env} {s : State} {m : MethodId} {args : Array Value} {below : List Frame} {meth : Method} {c : Code} {D : va_G} {A : Nat → Prop} {q : Nat → Nat} {cI cZ : ClassId} {Q : State → Prop} {σ : St} {r : Int} (C : Cx p s m args meth c D (TY cI cZ) cX4_isRow (some .boolean) 2 wsX4_isRow RX4) (hret : RtZ p l e rmX4_isRow_a19 s m args below meth c D A cX4_isRow Q (wE q cI cZ σ) (zI r)) :
    ∀ (x1 : Int) (H : Heap) (locs : List Loc) (ls : Array Slot), Wd D A s (wE q cI cZ σ) H locs → lv_has ls 2 [(0, .ref (q 19)), (1, .int (zI x1))] → pX4_isRow_a19_0 σ x1 = some r → W p l e rmX4_isRow_a19 s m args below meth c H locs 0 0 Q (F0 m 0 ls []) := by
  obtain ⟨hx, hb, hr, hml, hown, hts, hlk, hK, hN⟩ := id C
  intro x1 H locs ls hw hl hf
  rw [pX4_isRow_a19_0] at hf
  refine lv_aload_n hx hb dX4_isRow_0 rfl (lv_at hl 0 rfl) ?_
  refine lv_ifnull hx hb dX4_isRow_1 ?_
  refine lv_iload_n hx hb dX4_isRow_4 rfl (lv_at hl 1 rfl) ?_
  obtain ⟨hg5, hf⟩ := gd_s hf
  refine zv_if_lt (tgt := 21) hx hb hg5 dX4_isRow_5 (by decide) (fun (c5 : x1 < 0) => ?_) (fun (c5 : ¬ (x1 < 0)) => ?_)
  · rw [if_pos c5] at hf
    refine lv_iconst (v := zI 0) hx hb dX4_isRow_21 rfl ?_
    cases hf
    exact hret H locs ls 22 dX4_isRow_22 (by decide +kernel) hw
  · rw [if_neg c5] at hf
    refine lv_iload_n hx hb dX4_isRow_8 rfl (lv_at hl 1 rfl) ?_
    refine lv_aload_n hx hb dX4_isRow_9 rfl (lv_at hl 0 rfl) ?_
    refine va_alen (v := zI 400) (D := D) hx hb hK hw.1 19 0 rfl rfl (by show Int32.ofNat 400 = zI 400; decide +kernel) dX4_isRow_10 ?_
    refine lv_bipush (v := zI 20) hx hb dX4_isRow_11 (by decide +kernel) ?_
    refine zv_isub hx hb dX4_isRow_13 ?_
    obtain ⟨hg14, hf⟩ := gd_s hf
    refine zv_icmp_gt (tgt := 21) hx hb hg14 dX4_isRow_14 (by decide) (fun (c14 : (400 - 20) < x1) => ?_) (fun (c14 : ¬ ((400 - 20) < x1)) => ?_)
    · rw [if_pos c14] at hf
      refine lv_iconst (v := zI 0) hx hb dX4_isRow_21 rfl ?_
      cases hf
      exact hret H locs ls 22 dX4_isRow_22 (by decide +kernel) hw
    · rw [if_neg c14] at hf
      refine lv_iconst (v := zI 1) hx hb dX4_isRow_17 rfl ?_
      refine lv_goto (tgt := 22) hx hb dX4_isRow_18 (by decide) ?_
      cases hf
      exact hret H locs ls 22 dX4_isRow_22 (by decide +kernel) hw
set_option maxHeartbeats 4000000 in
set_option maxRecDepth 100000 in
theorem tX4_isRow_a19 {l : Launch} {D : va_G} {A : Nat → Prop} {cI cZ : ClassId} {q : Nat → Nat} {σ : St} {x1 : Int} {r : Int} (hf : pX4_isRow_a19 σ x1 = some r) : Met l yX4_isRow wsX4_isRow rmX4_isRow_a19 (va_Pc [.ref (q 19), .int (zI x1)] (CX D (TY cI cZ) A (wE q cI cZ σ))) (QI D (TY cI cZ) A (wE q cI cZ σ) (zI r)) 0 0 A := by
  refine opn (cc := cX4_isRow) (maxL := 2) (ret := (some .boolean)) (by decide) rfl (Nat.le_of_ble_eq_true rfl) (fun p e s m below meth c C ls hw hl => ?_)
  have hl : lv_has ls 2 [(0, .ref (q 19)), (1, .int (zI x1))] := hl
  rw [pX4_isRow_a19] at hf
  exact wX4_isRow_a19_0 C (rtZ C) x1 _ _ ls hw (lv_sub hl [0, 1] rfl) hf
abbrev rmX4_saveTo_a19 : Room := { frames := 1, cells := 0, slots := 0, locals := 60 }
set_option maxHeartbeats 4000000 in
set_option maxRecDepth 100000 in
theorem wX4_saveTo_a19_0 {p : Program} {l : Launch} {e : Env} {s : State} {m : MethodId} {args : Array Value} {below : List Frame} {meth : Method} {c : Code} {D : va_G} {A : Nat → Prop} {q : Nat → Nat} {cI cZ : ClassId} {Q : State → Prop} {τ : St} (C : Cx p s m args meth c D (TY cI cZ) cX4_saveTo none 4 wsX4_saveTo RX4) (hret : RtV p l e rmX4_saveTo_a19 s m args below meth c D A cX4_saveTo Q (wE q cI cZ τ)) :
    ∀ (σ : St) (x2 : Int) (H : Heap) (locs : List Loc) (ls : Array Slot), Wd D A s (wE q cI cZ σ) H locs → lv_has ls 4 [(0, .ref (q 15)), (1, .ref (q 19)), (2, .int (zI x2))] → pX4_saveTo_a19_0 σ x2 = some τ → W p l e rmX4_saveTo_a19 s m args below meth c H locs 0 0 Q (F0 m 0 ls []) := by
  obtain ⟨hx, hb, hr, hml, hown, hts, hlk, hK, hN⟩ := id C
  intro σ x2 H locs ls hw hl hf
  rw [pX4_saveTo_a19_0] at hf
  refine lv_aload_n hx hb dX4_saveTo_0 rfl (lv_at hl 1 rfl) ?_
  refine lv_iload_n hx hb dX4_saveTo_1 rfl (lv_at hl 2 rfl) ?_
  obtain ⟨r2, h2, hf⟩ := bd_s hf
  replace hf := bt_s hf
  refine gSi (As := [.ref (q 19), .int (zI x2)]) (rest := []) C hw (tX4_isRow_a19 h2) (va_cwS 2 hts gX4_saveTo_X4_isRow rfl rfl rfl (by decide +kernel) ⟨Nat.le_of_ble_eq_true rfl, Nat.le_of_ble_eq_true rfl⟩) rfl hl.1 rfl (Nat.le_of_ble_eq_true rfl) dX4_saveTo_2 (fun H locs hw => ?_)
  obtain ⟨hg5, hf⟩ := gd_s hf
  refine zv_if_ne (tgt := 9) hx hb hg5 dX4_saveTo_5 (by decide) (fun (c5 : ¬ (r2 = 0)) => ?_) (fun (c5 : r2 = 0) => ?_)
  · rw [if_neg c5] at hf
    refine lv_aload_n hx hb dX4_saveTo_9 rfl (lv_at hl 0 rfl) ?_
    refine va_get (D := D) (ci := 4) (v := .ref (q 16)) (C := RX4) (T := TX4) (N := 9) hx hb hts (fun _ h => List.mem_cons_of_mem _ (List.mem_append_right _ h)) hown hK hw.1 15 rfl rfl 1 (by decide) (hts (.fieldLink RX4 15 "EggThrones$Morning" "states" "[I") (List.mem_of_getElem? (i := 1) rfl)) (fun _ h9 => h9) rfl dX4_saveTo_10 ?_
    refine lv_iconst (v := zI 0) hx hb dX4_saveTo_13 rfl ?_
    refine lv_aload_n hx hb dX4_saveTo_14 rfl (lv_at hl 1 rfl) ?_
    refine lv_iload_n hx hb dX4_saveTo_15 rfl (lv_at hl 2 rfl) ?_
    refine lv_bipush (v := zI 7) hx hb dX4_saveTo_16 (by decide +kernel) ?_
    obtain ⟨ha18, hf⟩ := gd_s hf
    refine zv_copyi (D := D) (rest := []) hx hb (hml.trans hl.1.symm) hown (hts (.methodLink RX4 106 arraycopyName) (List.mem_of_getElem? (i := 2) rfl)) (hts (.native arraycopyName) (List.mem_of_getElem? (i := 3) rfl)) (hts (.static arraycopyName) (List.mem_of_getElem? (i := 4) rfl)) (hts (.initialized "java/lang/System") (List.mem_of_getElem? (i := 5) rfl)) hK hw.1 hw.2.1 hw.2.2 16 19 0 0 rfl rfl rfl rfl ha18 (by decide) (by decide) (Nat.le_of_ble_eq_true rfl) (Nat.le_of_ble_eq_true rfl) dX4_saveTo_18 (fun H locs hP hD hS => ?_)
    have hw : Wd D A s (wE q cI cZ (sA σ 13 (va_cpy (σ.2 11) (σ.2 13) 0 (Int.toNat x2) 7))) H locs := wdaE_13 hP hD hS
    obtain ⟨σ18, e18, hf⟩ := nm_s hf
    replace hf := bt_s hf
    rw [← e18] at hw
    refine lv_aload_n hx hb dX4_saveTo_21 rfl (lv_at hl 0 rfl) ?_
    refine va_get (D := D) (ci := 4) (v := .ref (q 17)) (C := RX4) (T := TX4) (N := 9) hx hb hts (fun _ h => List.mem_cons_of_mem _ (List.mem_append_right _ h)) hown hK hw.1 15 rfl rfl 2 (by decide) (hts (.fieldLink RX4 19 "EggThrones$Morning" "boiled" "[I") (List.mem_of_getElem? (i := 6) rfl)) (fun _ h9 => h9) rfl dX4_saveTo_22 ?_
    refine lv_iconst (v := zI 0) hx hb dX4_saveTo_25 rfl ?_
    refine lv_aload_n hx hb dX4_saveTo_26 rfl (lv_at hl 1 rfl) ?_
    refine lv_iload_n hx hb dX4_saveTo_27 rfl (lv_at hl 2 rfl) ?_
    refine lv_bipush (v := zI 7) hx hb dX4_saveTo_28 (by decide +kernel) ?_
    refine zv_iadd hx hb dX4_saveTo_30 ?_
    refine lv_bipush (v := zI 7) hx hb dX4_saveTo_31 (by decide +kernel) ?_
    obtain ⟨ha33, hf⟩ := gd_s hf
    refine zv_copyi (D := D) (rest := []) hx hb (hml.trans hl.1.symm) hown (hts (.methodLink RX4 106 arraycopyName) (List.mem_of_getElem? (i := 2) rfl)) (hts (.native arraycopyName) (List.mem_of_getElem? (i := 3) rfl)) (hts (.static arraycopyName) (List.mem_of_getElem? (i := 4) rfl)) (hts (.initialized "java/lang/System") (List.mem_of_getElem? (i := 5) rfl)) hK hw.1 hw.2.1 hw.2.2 17 19 0 0 rfl rfl rfl rfl ha33 (by decide) (by decide) (Nat.le_of_ble_eq_true rfl) (Nat.le_of_ble_eq_true rfl) dX4_saveTo_33 (fun H locs hP hD hS => ?_)
    have hw : Wd D A s (wE q cI cZ (sA σ18 13 (va_cpy (σ18.2 12) (σ18.2 13) 0 (Int.toNat (x2 + 7)) 7))) H locs := wdaE_13 hP hD hS
    obtain ⟨σ33, e33, hf⟩ := nm_s hf
    replace hf := bt_s hf
    rw [← e33] at hw
    refine lv_iload_n hx hb dX4_saveTo_36 rfl (lv_at hl 2 rfl) ?_
    refine lv_bipush (v := zI 14) hx hb dX4_saveTo_37 (by decide +kernel) ?_
    refine zv_iadd hx hb dX4_saveTo_39 ?_
    refine lv_istore_n (lv' := [(3, .int (zI (x2 + 14))), (0, .ref (q 15)), (1, .ref (q 19)), (2, .int (zI x2))]) hx hb dX4_saveTo_40 rfl hl (by decide) rfl (fun ls hl => ?_)
    refine lv_aload_n hx hb dX4_saveTo_41 rfl (lv_at hl 2 rfl) ?_
    refine lv_iload_n hx hb dX4_saveTo_42 rfl (lv_at hl 0 rfl) ?_
    refine lv_aload_n hx hb dX4_saveTo_43 rfl (lv_at hl 1 rfl) ?_
    refine va_get (D := D) (ci := 4) (v := .int (zI (σ33.1 16))) (C := RX4) (T := TX4) (N := 9) hx hb hts (fun _ h => List.mem_cons_of_mem _ (List.mem_append_right _ h)) hown hK hw.1 15 rfl rfl 3 (by decide) (hts (.fieldLink RX4 22 "EggThrones$Morning" "king" "I") (List.mem_of_getElem? (i := 7) rfl)) (fun _ h9 => h9) rfl dX4_saveTo_44 ?_
    obtain ⟨hi47, hf⟩ := gd_s hf
    refine zv_iast (D := D) hx hb hK hw.1 hw.2.1 hw.2.2 19 0 rfl rfl hi47 (by decide) dX4_saveTo_47 (fun H locs hP hD hS => ?_)
    have hw : Wd D A s (wE q cI cZ (sA σ33 13 (va_up (σ33.2 13) (Int.toNat (x2 + 14)) (σ33.1 16)))) H locs := wdaE_13 hP hD hS
    obtain ⟨σ47, e47, hf⟩ := nm_s hf
    replace hf := bt_s hf
    rw [← e47] at hw
    refine lv_aload_n hx hb dX4_saveTo_48 rfl (lv_at hl 2 rfl) ?_
    refine lv_iload_n hx hb dX4_saveTo_49 rfl (lv_at hl 0 rfl) ?_
    refine lv_iconst (v := zI 1) hx hb dX4_saveTo_50 rfl ?_
    refine zv_iadd hx hb dX4_saveTo_51 ?_
    refine lv_aload_n hx hb dX4_saveTo_52 rfl (lv_at hl 1 rfl) ?_
    refine va_get (D := D) (ci := 4) (v := .int (zI (σ47.1 17))) (C := RX4) (T := TX4) (N := 9) hx hb hts (fun _ h => List.mem_cons_of_mem _ (List.mem_append_right _ h)) hown hK hw.1 15 rfl rfl 4 (by decide) (hts (.fieldLink RX4 26 "EggThrones$Morning" "left" "I") (List.mem_of_getElem? (i := 8) rfl)) (fun _ h9 => h9) rfl dX4_saveTo_53 ?_
    obtain ⟨hi56, hf⟩ := gd_s hf
    refine zv_iast (D := D) hx hb hK hw.1 hw.2.1 hw.2.2 19 0 rfl rfl hi56 (by decide) dX4_saveTo_56 (fun H locs hP hD hS => ?_)
    have hw : Wd D A s (wE q cI cZ (sA σ47 13 (va_up (σ47.2 13) (Int.toNat ((x2 + 14) + 1)) (σ47.1 17)))) H locs := wdaE_13 hP hD hS
    obtain ⟨σ56, e56, hf⟩ := nm_s hf
    replace hf := bt_s hf
    rw [← e56] at hw
    refine lv_aload_n hx hb dX4_saveTo_57 rfl (lv_at hl 2 rfl) ?_
    refine lv_iload_n hx hb dX4_saveTo_58 rfl (lv_at hl 0 rfl) ?_
    refine lv_iconst (v := zI 2) hx hb dX4_saveTo_59 rfl ?_
    refine zv_iadd hx hb dX4_saveTo_60 ?_
    refine lv_aload_n hx hb dX4_saveTo_61 rfl (lv_at hl 1 rfl) ?_
    refine va_get (D := D) (ci := 4) (v := .int (zI (σ56.1 18))) (C := RX4) (T := TX4) (N := 9) hx hb hts (fun _ h => List.mem_cons_of_mem _ (List.mem_append_right _ h)) hown hK hw.1 15 rfl rfl 5 (by decide) (hts (.fieldLink RX4 29 "EggThrones$Morning" "soldiers" "I") (List.mem_of_getElem? (i := 9) rfl)) (fun _ h9 => h9) rfl dX4_saveTo_62 ?_
    obtain ⟨hi65, hf⟩ := gd_s hf
    refine zv_iast (D := D) hx hb hK hw.1 hw.2.1 hw.2.2 19 0 rfl rfl hi65 (by decide) dX4_saveTo_65 (fun H locs hP hD hS => ?_)
    have hw : Wd D A s (wE q cI cZ (sA σ56 13 (va_up (σ56.2 13) (Int.toNat ((x2 + 14) + 2)) (σ56.1 18)))) H locs := wdaE_13 hP hD hS
    obtain ⟨σ65, e65, hf⟩ := nm_s hf
    replace hf := bt_s hf
    rw [← e65] at hw
    refine lv_aload_n hx hb dX4_saveTo_66 rfl (lv_at hl 2 rfl) ?_
    refine lv_iload_n hx hb dX4_saveTo_67 rfl (lv_at hl 0 rfl) ?_
    refine lv_iconst (v := zI 3) hx hb dX4_saveTo_68 rfl ?_
    refine zv_iadd hx hb dX4_saveTo_69 ?_
    refine lv_aload_n hx hb dX4_saveTo_70 rfl (lv_at hl 1 rfl) ?_
    refine va_get (D := D) (ci := 4) (v := .int (zI (σ65.1 19))) (C := RX4) (T := TX4) (N := 9) hx hb hts (fun _ h => List.mem_cons_of_mem _ (List.mem_append_right _ h)) hown hK hw.1 15 rfl rfl 6 (by decide) (hts (.fieldLink RX4 32 "EggThrones$Morning" "minutes" "I") (List.mem_of_getElem? (i := 10) rfl)) (fun _ h9 => h9) rfl dX4_saveTo_71 ?_
    obtain ⟨hi74, hf⟩ := gd_s hf
    refine zv_iast (D := D) hx hb hK hw.1 hw.2.1 hw.2.2 19 0 rfl rfl hi74 (by decide) dX4_saveTo_74 (fun H locs hP hD hS => ?_)
    have hw : Wd D A s (wE q cI cZ (sA σ65 13 (va_up (σ65.2 13) (Int.toNat ((x2 + 14) + 3)) (σ65.1 19)))) H locs := wdaE_13 hP hD hS
    obtain ⟨σ74, e74, hf⟩ := nm_s hf
    replace hf := bt_s hf
    rw [← e74] at hw
    refine lv_aload_n hx hb dX4_saveTo_75 rfl (lv_at hl 2 rfl) ?_
    refine lv_iload_n hx hb dX4_saveTo_76 rfl (lv_at hl 0 rfl) ?_
    refine lv_iconst (v := zI 4) hx hb dX4_saveTo_77 rfl ?_
    refine zv_iadd hx hb dX4_saveTo_78 ?_
    refine lv_aload_n hx hb dX4_saveTo_79 rfl (lv_at hl 1 rfl) ?_
    refine va_get (D := D) (ci := 4) (v := .int (zI (σ74.1 20))) (C := RX4) (T := TX4) (N := 9) hx hb hts (fun _ h => List.mem_cons_of_mem _ (List.mem_append_right _ h)) hown hK hw.1 15 rfl rfl 7 (by decide) (hts (.fieldLink RX4 35 "EggThrones$Morning" "reigned" "I") (List.mem_of_getElem? (i := 11) rfl)) (fun _ h9 => h9) rfl dX4_saveTo_80 ?_
    obtain ⟨hi83, hf⟩ := gd_s hf
    refine zv_iast (D := D) hx hb hK hw.1 hw.2.1 hw.2.2 19 0 rfl rfl hi83 (by decide) dX4_saveTo_83 (fun H locs hP hD hS => ?_)
    have hw : Wd D A s (wE q cI cZ (sA σ74 13 (va_up (σ74.2 13) (Int.toNat ((x2 + 14) + 4)) (σ74.1 20)))) H locs := wdaE_13 hP hD hS
    obtain ⟨σ83, e83, hf⟩ := nm_s hf
    replace hf := bt_s hf
    rw [← e83] at hw
    refine lv_aload_n hx hb dX4_saveTo_84 rfl (lv_at hl 2 rfl) ?_
    refine lv_iload_n hx hb dX4_saveTo_85 rfl (lv_at hl 0 rfl) ?_
    refine lv_iconst (v := zI 5) hx hb dX4_saveTo_86 rfl ?_
    refine zv_iadd hx hb dX4_saveTo_87 ?_
    refine lv_aload_n hx hb dX4_saveTo_88 rfl (lv_at hl 1 rfl) ?_
    refine va_get (D := D) (ci := 4) (v := .int (zI (σ83.1 21))) (C := RX4) (T := TX4) (N := 9) hx hb hts (fun _ h => List.mem_cons_of_mem _ (List.mem_append_right _ h)) hown hK hw.1 15 rfl rfl 8 (by decide) (hts (.fieldLink RX4 38 "EggThrones$Morning" "scraped" "I") (List.mem_of_getElem? (i := 12) rfl)) (fun _ h9 => h9) rfl dX4_saveTo_89 ?_
    obtain ⟨hi92, hf⟩ := gd_s hf
    refine zv_iast (D := D) hx hb hK hw.1 hw.2.1 hw.2.2 19 0 rfl rfl hi92 (by decide) dX4_saveTo_92 (fun H locs hP hD hS => ?_)
    have hw : Wd D A s (wE q cI cZ (sA σ83 13 (va_up (σ83.2 13) (Int.toNat ((x2 + 14) + 5)) (σ83.1 21)))) H locs := wdaE_13 hP hD hS
    obtain ⟨σ92, e92, hf⟩ := nm_s hf
    replace hf := bt_s hf
    rw [← e92] at hw
    cases hf
    exact hret H locs ls 93 dX4_saveTo_93 hw
  · rw [if_pos c5] at hf
    cases hf
    exact hret H locs ls 8 dX4_saveTo_8 hw
set_option maxHeartbeats 4000000 in
set_option maxRecDepth 100000 in
theorem tX4_saveTo_a19 {l : Launch} {D : va_G} {A : Nat → Prop} {cI cZ : ClassId} {q : Nat → Nat} {σ : St} {x2 : Int} {τ : St} (hf : pX4_saveTo_a19 σ x2 = some τ) : Met l yX4_saveTo wsX4_saveTo rmX4_saveTo_a19 (va_Pc [.ref (q 15), .ref (q 19), .int (zI x2)] (CX D (TY cI cZ) A (wE q cI cZ σ))) (QV D (TY cI cZ) A (wE q cI cZ τ)) 0 0 A := by
  refine opn (cc := cX4_saveTo) (maxL := 4) (ret := none) (by decide) rfl (Nat.le_of_ble_eq_true rfl) (fun p e s m below meth c C ls hw hl => ?_)
  have hl : lv_has ls 4 [(0, .ref (q 15)), (1, .ref (q 19)), (2, .int (zI x2))] := hl
  rw [pX4_saveTo_a19] at hf
  exact wX4_saveTo_a19_0 C (rtV C) σ x2 _ _ ls hw (lv_sub hl [0, 1, 2] rfl) hf
