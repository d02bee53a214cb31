abbrev rmX11_into_a10 : Room := { frames := 2, cells := 0, slots := 0, locals := 48 }
set_option maxHeartbeats 4000000 in
set_option maxRecDepth 100000 in
theorem wX11_into_a10_0 {p : Program} {l : Launch} {e : Env} {s : State} {m : MethodId} {args : Array Value} {below : List Frame} {meth : Method} {c : Code} {D : va_G} {A : Nat → Prop} {q : Nat → Nat} {cI cZ : ClassId} {Q : State → Prop} {r : Int} {τ : St} (C : Cx p s m args meth c D (TY cI cZ) cX11_into (some .int) 6 wsX11_into RX11) (hret : RtI p l e rmX11_into_a10 s m args below meth c D A cX11_into Q (wM q cI cZ τ) (zI r)) :
    ∀ (σ : St) (x2 : Int) (x3 : Int) (x4 : Int) (H : Heap) (locs : List Loc) (ls : Array Slot), Wd D A s (wM q cI cZ σ) H locs → lv_has ls 6 [(0, .ref (q 0)), (1, .ref (q 10)), (2, .int (zI x2)), (3, .int (zI x3)), (4, .int (zI x4))] → pX11_into_a10_0 σ x2 x3 x4 = some (r, τ) → W p l e rmX11_into_a10 s m args below meth c H locs 0 0 Q (F0 m 0 ls []) := by
  obtain ⟨hx, hb, hr, hml, hown, hts, hlk, hK, hN⟩ := id C
  intro σ x2 x3 x4 H locs ls hw hl hf
  rw [pX11_into_a10_0] at hf
  refine lv_aload_n hx hb dX11_into_0 rfl (lv_at hl 0 rfl) ?_
  refine lv_iload_n hx hb dX11_into_1 rfl (lv_at hl 3 rfl) ?_
  refine lv_iload hx hb dX11_into_2 (lv_at hl 4 rfl) ?_
  obtain ⟨⟨r4, σ4⟩, h4, hf⟩ := bd_s hf
  have hf := hf2_s hf
  refine gVi (As := [.int (zI x3), .int (zI x4)]) (rest := []) C hw (tX11_takeNumber h4) (cwV 2 hts gX11_into_X11_takeNumber rfl rfl rfl (by decide +kernel) ⟨Nat.le_of_ble_eq_true rfl, Nat.le_of_ble_eq_true rfl⟩) 11 0 rfl rfl rfl hl.1 rfl (Nat.le_of_ble_eq_true rfl) dX11_into_4 (fun H locs hw => ?_)
  refine lv_istore (lv' := [(5, .int (zI r4)), (0, .ref (q 0)), (1, .ref (q 10)), (2, .int (zI x2)), (3, .int (zI x3)), (4, .int (zI x4))]) hx hb dX11_into_7 hl (by decide) rfl (fun ls hl => ?_)
  refine lv_aload_n hx hb dX11_into_9 rfl (lv_at hl 2 rfl) ?_
  refine lv_iload_n hx hb dX11_into_10 rfl (lv_at hl 3 rfl) ?_
  refine lv_aload_n hx hb dX11_into_11 rfl (lv_at hl 1 rfl) ?_
  refine va_get (D := D) (ci := 11) (v := .int (zI (σ4.1 8))) (C := RX11) (T := TX11) (N := 40) hx hb hts (fun _ h => List.mem_cons_of_mem _ (List.mem_append_right _ h)) hown hK hw.1 0 rfl rfl 15 (by decide) (hts (.fieldLink RX11 128 "EggThronesModel" "number" "I") (List.mem_of_getElem? (i := 1) rfl)) (fun _ h9 => h9) rfl dX11_into_12 ?_
  obtain ⟨hi15, hf⟩ := gd_s hf
  refine zv_iast (D := D) hx hb hK hw.1 hw.2.1 hw.2.2 10 0 rfl rfl hi15 (by decide) dX11_into_15 (fun H locs hP hD hS => ?_)
  have hw : Wd D A s (wM q cI cZ (sA σ4 9 (va_up (σ4.2 9) (Int.toNat x2) (σ4.1 8)))) H locs := wdaM_9 hP hD hS
  obtain ⟨σ15, e15, hf⟩ := nm_s hf
  replace hf := bt_s hf
  rw [← e15] at hw
  refine lv_iload hx hb dX11_into_16 (lv_at hl 0 rfl) ?_
  cases hf
  exact hret H locs ls 18 dX11_into_18 hw
set_option maxHeartbeats 4000000 in
set_option maxRecDepth 100000 in
theorem tX11_into_a10 {l : Launch} {D : va_G} {A : Nat → Prop} {cI cZ : ClassId} {q : Nat → Nat} {σ : St} {x2 : Int} {x3 : Int} {x4 : Int} {r : Int} {τ : St} (hf : pX11_into_a10 σ x2 x3 x4 = some (r, τ)) : Met l yX11_into wsX11_into rmX11_into_a10 (va_Pc [.ref (q 0), .ref (q 10), .int (zI x2), .int (zI x3), .int (zI x4)] (CX D (TY cI cZ) A (wM q cI cZ σ))) (QI D (TY cI cZ) A (wM q cI cZ τ) (zI r)) 0 0 A := by
  refine opn (cc := cX11_into) (maxL := 6) (ret := (some .int)) (by decide) rfl (Nat.le_of_ble_eq_true rfl) (fun p e s m below meth c C ls hw hl => ?_)
  have hl : lv_has ls 6 [(0, .ref (q 0)), (1, .ref (q 10)), (2, .int (zI x2)), (3, .int (zI x3)), (4, .int (zI x4))] := hl
  rw [pX11_into_a10] at hf
  exact wX11_into_a10_0 C (rtI C) σ x2 x3 x4 _ _ ls hw (lv_sub hl [0, 1, 2, 3, 4] rfl) hf
abbrev rmX11_takeEgg : Room := { frames := 3, cells := 0, slots := 0, locals := 73 }
set_option maxHeartbeats 4000000 in
set_option maxRecDepth 100000 in
theorem wX11_takeEgg_0 {p : Program} {l : Launch} {e : Env} {s : State} {m : MethodId} {args : Array Value} {below : List Frame} {meth : Method} {c : Code} {D : va_G} {A : Nat → Prop} {q : Nat → Nat} {cI cZ : ClassId} {Q : State → Prop} {r : Int} {τ : St} (C : Cx p s m args meth c D (TY cI cZ) cX11_takeEgg (some .int) 3 wsX11_takeEgg RX11) (hret : RtI p l e rmX11_takeEgg s m args below meth c D A cX11_takeEgg Q (wM q cI cZ τ) (zI r)) :
    ∀ (σ : St) (H : Heap) (locs : List Loc) (ls : Array Slot), Wd D A s (wM q cI cZ σ) H locs → lv_has ls 3 [(0, .ref (q 0))] → pX11_takeEgg_0 σ = some (r, τ) → W p l e rmX11_takeEgg s m args below meth c H locs 0 0 Q (F0 m 0 ls []) := by
  obtain ⟨hx, hb, hr, hml, hown, hts, hlk, hK, hN⟩ := id C
  intro σ H locs ls hw hl hf
  rw [pX11_takeEgg_0] at hf
  refine lv_aload_n hx hb dX11_takeEgg_0 rfl (lv_at hl 0 rfl) ?_
  refine va_get (D := D) (ci := 11) (v := .int (zI (σ.1 10))) (C := RX11) (T := TX11) (N := 40) hx hb hts (fun _ h => List.mem_cons_of_mem _ (List.mem_append_right _ h)) hown hK hw.1 0 rfl rfl 18 (by decide) (hts (.fieldLink RX11 138 "EggThronesModel" "readEggs" "I") (List.mem_of_getElem? (i := 1) rfl)) (fun _ h9 => h9) rfl dX11_takeEgg_1 ?_
  refine lv_istore_n (lv' := [(1, .int (zI (σ.1 10))), (0, .ref (q 0))]) hx hb dX11_takeEgg_4 rfl hl (by decide) rfl (fun ls hl => ?_)
  refine lv_aload_n hx hb dX11_takeEgg_5 rfl (lv_at hl 1 rfl) ?_
  refine lv_dup hx hb dX11_takeEgg_6 rfl ?_
  refine va_get (D := D) (ci := 11) (v := .int (zI (σ.1 10))) (C := RX11) (T := TX11) (N := 40) hx hb hts (fun _ h => List.mem_cons_of_mem _ (List.mem_append_right _ h)) hown hK hw.1 0 rfl rfl 18 (by decide) (hts (.fieldLink RX11 138 "EggThronesModel" "readEggs" "I") (List.mem_of_getElem? (i := 1) rfl)) (fun _ h9 => h9) rfl dX11_takeEgg_7 ?_
  refine lv_iconst (v := zI 1) hx hb dX11_takeEgg_10 rfl ?_
  refine zv_iadd hx hb dX11_takeEgg_11 ?_
  refine va_put (D := D) (ci := 11) (v := .int (zI ((σ.1 10) + 1))) (ty := .int) (C := RX11) (T := TX11) (N := 40) hx hb hts (fun _ h => List.mem_cons_of_mem _ (List.mem_append_right _ h)) tyX11 tyX11_ok nmX11 hown hK hw.1 hw.2.1 hw.2.2 0 rfl rfl 18 (by decide) (hts (.fieldLink RX11 138 "EggThronesModel" "readEggs" "I") (List.mem_of_getElem? (i := 1) rfl)) (fun _ h9 => h9) rfl (by decide +kernel) rfl rfl (Nat.le_of_ble_eq_true rfl) dX11_takeEgg_12 (fun H locs hP hD hS => ?_)
  have hw : Wd D A s (wM q cI cZ (sI σ 10 ((σ.1 10) + 1))) H locs := wdiM_10 hP hD hS
  obtain ⟨σ12, e12, hf⟩ := nm_s hf
  replace hf := bt_s hf
  rw [← e12] at hw
  refine lv_aload_n hx hb dX11_takeEgg_15 rfl (lv_at hl 1 rfl) ?_
  refine lv_aload_n hx hb dX11_takeEgg_16 rfl (lv_at hl 1 rfl) ?_
  refine va_get (D := D) (ci := 11) (v := .ref (q 9)) (C := RX11) (T := TX11) (N := 40) hx hb hts (fun _ h => List.mem_cons_of_mem _ (List.mem_append_right _ h)) hown hK hw.1 0 rfl rfl 19 (by decide) (hts (.fieldLink RX11 38 "EggThronesModel" "readAge" "[I") (List.mem_of_getElem? (i := 2) rfl)) (fun _ h9 => h9) rfl dX11_takeEgg_17 ?_
  refine lv_iload_n hx hb dX11_takeEgg_20 rfl (lv_at hl 0 rfl) ?_
  refine lv_iconst (v := zI 0) hx hb dX11_takeEgg_21 rfl ?_
  refine lv_bipush (v := zI 30) hx hb dX11_takeEgg_22 (by decide +kernel) ?_
  obtain ⟨⟨r24, σ24⟩, h24, hf⟩ := bd_s hf
  have hf := hf2_s hf
  refine gVi (As := [.ref (q 9), .int (zI (σ.1 10)), .int (zI 0), .int (zI 30)]) (rest := []) C hw (tX11_into_a9 h24) (cwV 4 hts gX11_takeEgg_X11_into rfl rfl rfl (by decide +kernel) ⟨Nat.le_of_ble_eq_true rfl, Nat.le_of_ble_eq_true rfl⟩) 11 0 rfl rfl rfl hl.1 rfl (Nat.le_of_ble_eq_true rfl) dX11_takeEgg_24 (fun H locs hw => ?_)
  refine lv_istore_n (lv' := [(2, .int (zI r24)), (1, .int (zI (σ.1 10))), (0, .ref (q 0))]) hx hb dX11_takeEgg_27 rfl hl (by decide) rfl (fun ls hl => ?_)
  refine lv_iload_n hx hb dX11_takeEgg_28 rfl (lv_at hl 0 rfl) ?_
  obtain ⟨hg29, hf⟩ := gd_s hf
  refine zv_if_le (tgt := 36) hx hb hg29 dX11_takeEgg_29 (by decide) (fun (c29 : r24 ≤ 0) => ?_) (fun (c29 : ¬ (r24 ≤ 0)) => ?_)
  · rw [if_pos c29] at hf
    refine lv_aload_n hx hb dX11_takeEgg_36 rfl (lv_at hl 2 rfl) ?_
    refine lv_aload_n hx hb dX11_takeEgg_37 rfl (lv_at hl 2 rfl) ?_
    refine va_get (D := D) (ci := 11) (v := .ref (q 10)) (C := RX11) (T := TX11) (N := 40) hx hb hts (fun _ h => List.mem_cons_of_mem _ (List.mem_append_right _ h)) hown hK hw.1 0 rfl rfl 20 (by decide) (hts (.fieldLink RX11 41 "EggThronesModel" "readSize" "[I") (List.mem_of_getElem? (i := 3) rfl)) (fun _ h9 => h9) rfl dX11_takeEgg_38 ?_
    refine lv_iload_n hx hb dX11_takeEgg_41 rfl (lv_at hl 1 rfl) ?_
    refine lv_iconst (v := zI 1) hx hb dX11_takeEgg_42 rfl ?_
    refine lv_iconst (v := zI 5) hx hb dX11_takeEgg_43 rfl ?_
    obtain ⟨⟨r44, σ44⟩, h44, hf⟩ := bd_s hf
    have hf := hf2_s hf
    refine gVi (As := [.ref (q 10), .int (zI (σ.1 10)), .int (zI 1), .int (zI 5)]) (rest := []) C hw (tX11_into_a10 h44) (cwV 4 hts gX11_takeEgg_X11_into rfl rfl rfl (by decide +kernel) ⟨Nat.le_of_ble_eq_true rfl, Nat.le_of_ble_eq_true rfl⟩) 11 0 rfl rfl rfl hl.1 rfl (Nat.le_of_ble_eq_true rfl) dX11_takeEgg_44 (fun H locs hw => ?_)
    cases hf
    exact hret H locs ls 47 dX11_takeEgg_47 hw
  · rw [if_neg c29] at hf
    refine lv_iload_n hx hb dX11_takeEgg_32 rfl (lv_at hl 0 rfl) ?_
    refine lv_goto (tgt := 47) hx hb dX11_takeEgg_33 (by decide) ?_
    cases hf
    exact hret H locs ls 47 dX11_takeEgg_47 hw
set_option maxHeartbeats 4000000 in
set_option maxRecDepth 100000 in
theorem tX11_takeEgg {l : Launch} {D : va_G} {A : Nat → Prop} {cI cZ : ClassId} {q : Nat → Nat} {σ : St} {r : Int} {τ : St} (hf : pX11_takeEgg σ = some (r, τ)) : Met l yX11_takeEgg wsX11_takeEgg rmX11_takeEgg (va_Pc [.ref (q 0)] (CX D (TY cI cZ) A (wM q cI cZ σ))) (QI D (TY cI cZ) A (wM q cI cZ τ) (zI r)) 0 0 A := by
  refine opn (cc := cX11_takeEgg) (maxL := 3) (ret := (some .int)) (by decide) rfl (Nat.le_of_ble_eq_true rfl) (fun p e s m below meth c C ls hw hl => ?_)
  have hl : lv_has ls 3 [(0, .ref (q 0))] := hl
  rw [pX11_takeEgg] at hf
  exact wX11_takeEgg_0 C (rtI C) σ _ _ ls hw (lv_sub hl [0] rfl) hf
abbrev rmX11_into_a8 : Room := { frames := 2, cells := 0, slots := 0, locals := 48 }
set_option maxHeartbeats 4000000 in
set_option maxRecDepth 100000 in
theorem wX11_into_a8_0 {p : Program} {l : Launch} {e : Env} {s : State} {m : MethodId} {args : Array Value} {below : List Frame} {meth : Method} {c : Code} {D : va_G} {A : Nat → Prop} {q : Nat → Nat} {cI cZ : ClassId} {Q : State → Prop} {r : Int} {τ : St} (C : Cx p s m args meth c D (TY cI cZ) cX11_into (some .int) 6 wsX11_into RX11) (hret : RtI p l e rmX11_into_a8 s m args below meth c D A cX11_into Q (wM q cI cZ τ) (zI r)) :
    ∀ (σ : St) (x2 : Int) (x3 : Int) (x4 : Int) (H : Heap) (locs : List Loc) (ls : Array Slot), Wd D A s (wM q cI cZ σ) H locs → lv_has ls 6 [(0, .ref (q 0)), (1, .ref (q 8)), (2, .int (zI x2)), (3, .int (zI x3)), (4, .int (zI x4))] → pX11_into_a8_0 σ x2 x3 x4 = some (r, τ) → W p l e rmX11_into_a8 s m args below meth c H locs 0 0 Q (F0 m 0 ls []) := by
  obtain ⟨hx, hb, hr, hml, hown, hts, hlk, hK, hN⟩ := id C
  intro σ x2 x3 x4 H locs ls hw hl hf
  rw [pX11_into_a8_0] at hf
  refine lv_aload_n hx hb dX11_into_0 rfl (lv_at hl 0 rfl) ?_
  refine lv_iload_n hx hb dX11_into_1 rfl (lv_at hl 3 rfl) ?_
  refine lv_iload hx hb dX11_into_2 (lv_at hl 4 rfl) ?_
  obtain ⟨⟨r4, σ4⟩, h4, hf⟩ := bd_s hf
  have hf := hf2_s hf
  refine gVi (As := [.int (zI x3), .int (zI x4)]) (rest := []) C hw (tX11_takeNumber h4) (cwV 2 hts gX11_into_X11_takeNumber rfl rfl rfl (by decide +kernel) ⟨Nat.le_of_ble_eq_true rfl, Nat.le_of_ble_eq_true rfl⟩) 11 0 rfl rfl rfl hl.1 rfl (Nat.le_of_ble_eq_true rfl) dX11_into_4 (fun H locs hw => ?_)
  refine lv_istore (lv' := [(5, .int (zI r4)), (0, .ref (q 0)), (1, .ref (q 8)), (2, .int (zI x2)), (3, .int (zI x3)), (4, .int (zI x4))]) hx hb dX11_into_7 hl (by decide) rfl (fun ls hl => ?_)
  refine lv_aload_n hx hb dX11_into_9 rfl (lv_at hl 2 rfl) ?_
  refine lv_iload_n hx hb dX11_into_10 rfl (lv_at hl 3 rfl) ?_
  refine lv_aload_n hx hb dX11_into_11 rfl (lv_at hl 1 rfl) ?_
  refine va_get (D := D) (ci := 11) (v := .int (zI (σ4.1 8))) (C := RX11) (T := TX11) (N := 40) hx hb hts (fun _ h => List.mem_cons_of_mem _ (List.mem_append_right _ h)) hown hK hw.1 0 rfl rfl 15 (by decide) (hts (.fieldLink RX11 128 "EggThronesModel" "number" "I") (List.mem_of_getElem? (i := 1) rfl)) (fun _ h9 => h9) rfl dX11_into_12 ?_
  obtain ⟨hi15, hf⟩ := gd_s hf
  refine zv_iast (D := D) hx hb hK hw.1 hw.2.1 hw.2.2 8 0 rfl rfl hi15 (by decide) dX11_into_15 (fun H locs hP hD hS => ?_)
  have hw : Wd D A s (wM q cI cZ (sA σ4 7 (va_up (σ4.2 7) (Int.toNat x2) (σ4.1 8)))) H locs := wdaM_7 hP hD hS
  obtain ⟨σ15, e15, hf⟩ := nm_s hf
  replace hf := bt_s hf
  rw [← e15] at hw
  refine lv_iload hx hb dX11_into_16 (lv_at hl 0 rfl) ?_
  cases hf
  exact hret H locs ls 18 dX11_into_18 hw
set_option maxHeartbeats 4000000 in
set_option maxRecDepth 100000 in
theorem tX11_into_a8 {l : Launch} {D : va_G} {A : Nat → Prop} {cI cZ : ClassId} {q : Nat → Nat} {σ : St} {x2 : Int} {x3 : Int} {x4 : Int} {r : Int} {τ : St} (hf : pX11_into_a8 σ x2 x3 x4 = some (r, τ)) : Met l yX11_into wsX11_into rmX11_into_a8 (va_Pc [.ref (q 0), .ref (q 8), .int (zI x2), .int (zI x3), .int (zI x4)] (CX D (TY cI cZ) A (wM q cI cZ σ))) (QI D (TY cI cZ) A (wM q cI cZ τ) (zI r)) 0 0 A := by
  refine opn (cc := cX11_into) (maxL := 6) (ret := (some .int)) (by decide) rfl (Nat.le_of_ble_eq_true rfl) (fun p e s m below meth c C ls hw hl => ?_)
  have hl : lv_has ls 6 [(0, .ref (q 0)), (1, .ref (q 8)), (2, .int (zI x2)), (3, .int (zI x3)), (4, .int (zI x4))] := hl
  rw [pX11_into_a8] at hf
  exact wX11_into_a8_0 C (rtI C) σ x2 x3 x4 _ _ ls hw (lv_sub hl [0, 1, 2, 3, 4] rfl) hf
abbrev rmX11_takePan : Room := { frames := 3, cells := 0, slots := 0, locals := 73 }
set_option maxHeartbeats 4000000 in
set_option maxRecDepth 100000 in
theorem wX11_takePan_32 {p : Program} {l : Launch} {e : Env} {s : State} {m : MethodId} {args : Array Value} {below : List Frame} {meth : Method} {c : Code} {D : va_G} {A : Nat → Prop} {q : Nat → Nat} {cI cZ : ClassId} {Q : State → Prop} {r : Int} {τ : St} (C : Cx p s m args meth c D (TY cI cZ) cX11_takePan (some .int) 2 wsX11_takePan RX11) (hret : RtI p l e rmX11_takePan s m args below meth c D A cX11_takePan Q (wM q cI cZ τ) (zI r)) :
    ∀ (σ : St) (t0 : Int) (H : Heap) (locs : List Loc) (ls : Array Slot), Wd D A s (wM q cI cZ σ) H locs → lv_has ls 2 [(0, .ref (q 0))] → pX11_takePan_32 σ t0 = some (r, τ) → W p l e rmX11_takePan s m args below meth c H locs 0 0 Q (F0 m 32 ls [.int (zI t0)]) := by
  obtain ⟨hx, hb, hr, hml, hown, hts, hlk, hK, hN⟩ := id C
  intro σ t0 H locs ls hw hl hf
  rw [pX11_takePan_32] at hf
  refine lv_istore_n (lv' := [(1, .int (zI t0)), (0, .ref (q 0))]) hx hb dX11_takePan_32 rfl hl (by decide) rfl (fun ls hl => ?_)
  refine lv_iload_n hx hb dX11_takePan_33 rfl (lv_at hl 0 rfl) ?_
  obtain ⟨hg34, hf⟩ := gd_s hf
  refine zv_if_le (tgt := 41) hx hb hg34 dX11_takePan_34 (by decide) (fun (c34 : t0 ≤ 0) => ?_) (fun (c34 : ¬ (t0 ≤ 0)) => ?_)
  · rw [if_pos c34] at hf
    refine lv_aload_n hx hb dX11_takePan_41 rfl (lv_at hl 1 rfl) ?_
    refine lv_aload_n hx hb dX11_takePan_42 rfl (lv_at hl 1 rfl) ?_
    refine va_get (D := D) (ci := 11) (v := .ref (q 8)) (C := RX11) (T := TX11) (N := 40) hx hb hts (fun _ h => List.mem_cons_of_mem _ (List.mem_append_right _ h)) hown hK hw.1 0 rfl rfl 17 (by decide) (hts (.fieldLink RX11 35 "EggThronesModel" "readPan" "[I") (List.mem_of_getElem? (i := 1) rfl)) (fun _ h9 => h9) rfl dX11_takePan_43 ?_
    refine lv_iconst (v := zI 2) hx hb dX11_takePan_46 rfl ?_
    refine lv_iconst (v := zI 1) hx hb dX11_takePan_47 rfl ?_
    refine lv_bipush (v := zI 30) hx hb dX11_takePan_48 (by decide +kernel) ?_
    obtain ⟨⟨r50, σ50⟩, h50, hf⟩ := bd_s hf
    have hf := hf2_s hf
    refine gVi (As := [.ref (q 8), .int (zI 2), .int (zI 1), .int (zI 30)]) (rest := []) C hw (tX11_into_a8 h50) (cwV 4 hts gX11_takePan_X11_into rfl rfl rfl (by decide +kernel) ⟨Nat.le_of_ble_eq_true rfl, Nat.le_of_ble_eq_true rfl⟩) 11 0 rfl rfl rfl hl.1 rfl (Nat.le_of_ble_eq_true rfl) dX11_takePan_50 (fun H locs hw => ?_)
    cases hf
    exact hret H locs ls 53 dX11_takePan_53 hw
  · rw [if_neg c34] at hf
    refine lv_iload_n hx hb dX11_takePan_37 rfl (lv_at hl 0 rfl) ?_
    refine lv_goto (tgt := 53) hx hb dX11_takePan_38 (by decide) ?_
    cases hf
    exact hret H locs ls 53 dX11_takePan_53 hw
set_option maxHeartbeats 4000000 in
set_option maxRecDepth 100000 in
theorem wX11_takePan_0 {p : Program} {l : Launch} {e : Env} {s : State} {m : MethodId} {args : Array Value} {below : List Frame} {meth : Method} {c : Code} {D : va_G} {A : Nat → Prop} {q : Nat → Nat} {cI cZ : ClassId} {Q : State → Prop} {r : Int} {τ : St} (C : Cx p s m args meth c D (TY cI cZ) cX11_takePan (some .int) 2 wsX11_takePan RX11) (hret : RtI p l e rmX11_takePan s m args below meth c D A cX11_takePan Q (wM q cI cZ τ) (zI r)) :
    ∀ (σ : St) (H : Heap) (locs : List Loc) (ls : Array Slot), Wd D A s (wM q cI cZ σ) H locs → lv_has ls 2 [(0, .ref (q 0))] → pX11_takePan_0 σ = some (r, τ) → W p l e rmX11_takePan s m args below meth c H locs 0 0 Q (F0 m 0 ls []) := by
  obtain ⟨hx, hb, hr, hml, hown, hts, hlk, hK, hN⟩ := id C
  intro σ H locs ls hw hl hf
  rw [pX11_takePan_0] at hf
  refine lv_aload_n hx hb dX11_takePan_0 rfl (lv_at hl 0 rfl) ?_
  refine lv_aload_n hx hb dX11_takePan_1 rfl (lv_at hl 0 rfl) ?_
  refine va_get (D := D) (ci := 11) (v := .ref (q 8)) (C := RX11) (T := TX11) (N := 40) hx hb hts (fun _ h => List.mem_cons_of_mem _ (List.mem_append_right _ h)) hown hK hw.1 0 rfl rfl 17 (by decide) (hts (.fieldLink RX11 35 "EggThronesModel" "readPan" "[I") (List.mem_of_getElem? (i := 1) rfl)) (fun _ h9 => h9) rfl dX11_takePan_2 ?_
  refine lv_iconst (v := zI 0) hx hb dX11_takePan_5 rfl ?_
  refine lv_iconst (v := zI 1) hx hb dX11_takePan_6 rfl ?_
  refine lv_iconst (v := zI 3) hx hb dX11_takePan_7 rfl ?_
  obtain ⟨⟨r8, σ8⟩, h8, hf⟩ := bd_s hf
  have hf := hf2_s hf
  refine gVi (As := [.ref (q 8), .int (zI 0), .int (zI 1), .int (zI 3)]) (rest := []) C hw (tX11_into_a8 h8) (cwV 4 hts gX11_takePan_X11_into rfl rfl rfl (by decide +kernel) ⟨Nat.le_of_ble_eq_true rfl, Nat.le_of_ble_eq_true rfl⟩) 11 0 rfl rfl rfl hl.1 rfl (Nat.le_of_ble_eq_true rfl) dX11_takePan_8 (fun H locs hw => ?_)
  refine lv_istore_n (lv' := [(1, .int (zI r8)), (0, .ref (q 0))]) hx hb dX11_takePan_11 rfl hl (by decide) rfl (fun ls hl => ?_)
  refine lv_iload_n hx hb dX11_takePan_12 rfl (lv_at hl 0 rfl) ?_
  obtain ⟨hg13, hf⟩ := gd_s hf
  refine zv_if_le (tgt := 20) hx hb hg13 dX11_takePan_13 (by decide) (fun (c13 : r8 ≤ 0) => ?_) (fun (c13 : ¬ (r8 ≤ 0)) => ?_)
  · rw [if_pos c13] at hf
    refine lv_aload_n hx hb dX11_takePan_20 rfl (lv_at hl 1 rfl) ?_
    refine lv_aload_n hx hb dX11_takePan_21 rfl (lv_at hl 1 rfl) ?_
    refine va_get (D := D) (ci := 11) (v := .ref (q 8)) (C := RX11) (T := TX11) (N := 40) hx hb hts (fun _ h => List.mem_cons_of_mem _ (List.mem_append_right _ h)) hown hK hw.1 0 rfl rfl 17 (by decide) (hts (.fieldLink RX11 35 "EggThronesModel" "readPan" "[I") (List.mem_of_getElem? (i := 1) rfl)) (fun _ h9 => h9) rfl dX11_takePan_22 ?_
    refine lv_iconst (v := zI 1) hx hb dX11_takePan_25 rfl ?_
    refine lv_iconst (v := zI 0) hx hb dX11_takePan_26 rfl ?_
    refine lv_bipush (v := zI 99) hx hb dX11_takePan_27 (by decide +kernel) ?_
    obtain ⟨⟨r29, σ29⟩, h29, hf⟩ := bd_s hf
    have hf := hf2_s hf
    refine gVi (As := [.ref (q 8), .int (zI 1), .int (zI 0), .int (zI 99)]) (rest := []) C hw (tX11_into_a8 h29) (cwV 4 hts gX11_takePan_X11_into rfl rfl rfl (by decide +kernel) ⟨Nat.le_of_ble_eq_true rfl, Nat.le_of_ble_eq_true rfl⟩) 11 0 rfl rfl rfl hl.1 rfl (Nat.le_of_ble_eq_true rfl) dX11_takePan_29 (fun H locs hw => ?_)
    exact wX11_takePan_32 C hret σ29 r29 H locs ls hw (lv_sub hl [1] rfl) hf
  · rw [if_neg c13] at hf
    refine lv_iload_n hx hb dX11_takePan_16 rfl (lv_at hl 0 rfl) ?_
    refine lv_goto (tgt := 32) hx hb dX11_takePan_17 (by decide) ?_
    exact wX11_takePan_32 C hret σ8 r8 H locs ls hw (lv_sub hl [1] rfl) hf
set_option maxHeartbeats 4000000 in
set_option maxRecDepth 100000 in
theorem tX11_takePan {l : Launch} {D : va_G} {A : Nat → Prop} {cI cZ : ClassId} {q : Nat → Nat} {σ : St} {r : Int} {τ : St} (hf : pX11_takePan σ = some (r, τ)) : Met l yX11_takePan wsX11_takePan rmX11_takePan (va_Pc [.ref (q 0)] (CX D (TY cI cZ) A (wM q cI cZ σ))) (QI D (TY cI cZ) A (wM q cI cZ τ) (zI r)) 0 0 A := by
  refine opn (cc := cX11_takePan) (maxL := 2) (ret := (some .int)) (by decide) rfl (Nat.le_of_ble_eq_true rfl) (fun p e s m below meth c C ls hw hl => ?_)
  have hl : lv_has ls 2 [(0, .ref (q 0))] := hl
  rw [pX11_takePan] at hf
  exact wX11_takePan_0 C (rtI C) σ _ _ ls hw (lv_sub hl [0] rfl) hf
abbrev rmX11_takeClause : Room := { frames := 4, cells := 0, slots := 0, locals := 95 }
set_option maxHeartbeats 4000000 in
set_option maxRecDepth 100000 in
theorem wX11_takeClause_54 {p : Program} {l : Launch} {e : Env} {s : State} {m : MethodId} {args : Array Value} {below : List Frame} {meth : Method} {c : Code} {D : va_G} {A : Nat → Prop} {q : Nat → Nat} {cI cZ : ClassId} {Q : State → Prop} {r : Int} {τ : St} (C : Cx p s m args meth c D (TY cI cZ) cX11_takeClause (some .int) 5 wsX11_takeClause RX11) (hret : RtI p l e rmX11_takeClause s m args below meth c D A cX11_takeClause Q (wM q cI cZ τ) (zI r)) :
    ∀ (σ : St) (H : Heap) (locs : List Loc) (ls : Array Slot), Wd D A s (wM q cI cZ σ) H locs → lv_has ls 5 [(0, .ref (q 0))] → pX11_takeClause_54 σ = some (r, τ) → W p l e rmX11_takeClause s m args below meth c H locs 0 0 Q (F0 m 54 ls []) := by
  obtain ⟨hx, hb, hr, hml, hown, hts, hlk, hK, hN⟩ := id C
  intro σ H locs ls hw hl hf
  rw [pX11_takeClause_54] at hf
  refine lv_aload_n hx hb dX11_takeClause_54 rfl (lv_at hl 0 rfl) ?_
  refine lv_iconst (v := zI 1) hx hb dX11_takeClause_55 rfl ?_
  refine lv_aload_n hx hb dX11_takeClause_56 rfl (lv_at hl 0 rfl) ?_
  refine va_get (D := D) (ci := 11) (v := .int (zI (σ.1 7))) (C := RX11) (T := TX11) (N := 40) hx hb hts (fun _ h => List.mem_cons_of_mem _ (List.mem_append_right _ h)) hown hK hw.1 0 rfl rfl 14 (by decide) (hts (.fieldLink RX11 110 "EggThronesModel" "at0" "I") (List.mem_of_getElem? (i := 2) rfl)) (fun _ h9 => h9) rfl dX11_takeClause_57 ?_
  obtain ⟨⟨r60, σ60⟩, h60, hf⟩ := bd_s hf
  have hf := hf2_s hf
  refine gVi (As := [.int (zI 1), .int (zI (σ.1 7))]) (rest := []) C hw (tX11_fails h60) (cwV 2 hts gX11_takeClause_X11_fails rfl rfl rfl (by decide +kernel) ⟨Nat.le_of_ble_eq_true rfl, Nat.le_of_ble_eq_true rfl⟩) 11 0 rfl rfl rfl hl.1 rfl (Nat.le_of_ble_eq_true rfl) dX11_takeClause_60 (fun H locs hw => ?_)
  cases hf
  exact hret H locs ls 63 dX11_takeClause_63 hw
set_option maxHeartbeats 4000000 in
set_option maxRecDepth 100000 in
theorem wX11_takeClause_198 {p : Program} {l : Launch} {e : Env} {s : State} {m : MethodId} {args : Array Value} {below : List Frame} {meth : Method} {c : Code} {D : va_G} {A : Nat → Prop} {q : Nat → Nat} {cI cZ : ClassId} {Q : State → Prop} {r : Int} {τ : St} (C : Cx p s m args meth c D (TY cI cZ) cX11_takeClause (some .int) 5 wsX11_takeClause RX11) (hret : RtI p l e rmX11_takeClause s m args below meth c D A cX11_takeClause Q (wM q cI cZ τ) (zI r)) :
    ∀ (σ : St) (x4 : Int) (H : Heap) (locs : List Loc) (ls : Array Slot), Wd D A s (wM q cI cZ σ) H locs → lv_has ls 5 [(0, .ref (q 0)), (4, .int (zI x4))] → pX11_takeClause_198 σ x4 = some (r, τ) → W p l e rmX11_takeClause s m args below meth c H locs 0 0 Q (F0 m 198 ls []) := by
  obtain ⟨hx, hb, hr, hml, hown, hts, hlk, hK, hN⟩ := id C
  intro σ x4 H locs ls hw hl hf
  rw [pX11_takeClause_198] at hf
  refine lv_aload_n hx hb dX11_takeClause_198 rfl (lv_at hl 0 rfl) ?_
  refine lv_dup hx hb dX11_takeClause_199 rfl ?_
  refine va_get (D := D) (ci := 11) (v := .int (zI (σ.1 7))) (C := RX11) (T := TX11) (N := 40) hx hb hts (fun _ h => List.mem_cons_of_mem _ (List.mem_append_right _ h)) hown hK hw.1 0 rfl rfl 14 (by decide) (hts (.fieldLink RX11 110 "EggThronesModel" "at0" "I") (List.mem_of_getElem? (i := 2) rfl)) (fun _ h9 => h9) rfl dX11_takeClause_200 ?_
  refine lv_iconst (v := zI 1) hx hb dX11_takeClause_203 rfl ?_
  refine zv_iadd hx hb dX11_takeClause_204 ?_
  refine va_put (D := D) (ci := 11) (v := .int (zI ((σ.1 7) + 1))) (ty := .int) (C := RX11) (T := TX11) (N := 40) hx hb hts (fun _ h => List.mem_cons_of_mem _ (List.mem_append_right _ h)) tyX11 tyX11_ok nmX11 hown hK hw.1 hw.2.1 hw.2.2 0 rfl rfl 14 (by decide) (hts (.fieldLink RX11 110 "EggThronesModel" "at0" "I") (List.mem_of_getElem? (i := 2) rfl)) (fun _ h9 => h9) rfl (by decide +kernel) rfl rfl (Nat.le_of_ble_eq_true rfl) dX11_takeClause_205 (fun H locs hP hD hS => ?_)
  have hw : Wd D A s (wM q cI cZ (sI σ 7 ((σ.1 7) + 1))) H locs := wdiM_7 hP hD hS
  obtain ⟨σ205, e205, hf⟩ := nm_s hf
  replace hf := bt_s hf
  rw [← e205] at hw
  refine lv_iload hx hb dX11_takeClause_208 (lv_at hl 1 rfl) ?_
  cases hf
  exact hret H locs ls 210 dX11_takeClause_210 hw
set_option maxHeartbeats 4000000 in
set_option maxRecDepth 100000 in
theorem wX11_takeClause_172 {p : Program} {l : Launch} {e : Env} {s : State} {m : MethodId} {args : Array Value} {below : List Frame} {meth : Method} {c : Code} {D : va_G} {A : Nat → Prop} {q : Nat → Nat} {cI cZ : ClassId} {Q : State → Prop} {r : Int} {τ : St} (C : Cx p s m args meth c D (TY cI cZ) cX11_takeClause (some .int) 5 wsX11_takeClause RX11) (hret : RtI p l e rmX11_takeClause s m args below meth c D A cX11_takeClause Q (wM q cI cZ τ) (zI r)) :
    ∀ (σ : St) (t0 : Int) (H : Heap) (locs : List Loc) (ls : Array Slot), Wd D A s (wM q cI cZ σ) H locs → lv_has ls 5 [(0, .ref (q 0))] → pX11_takeClause_172 σ t0 = some (r, τ) → W p l e rmX11_takeClause s m args below meth c H locs 0 0 Q (F0 m 172 ls [.int (zI t0)]) := by
  obtain ⟨hx, hb, hr, hml, hown, hts, hlk, hK, hN⟩ := id C
  intro σ t0 H locs ls hw hl hf
  rw [pX11_takeClause_172] at hf
  refine lv_istore (lv' := [(4, .int (zI t0)), (0, .ref (q 0))]) hx hb dX11_takeClause_172 hl (by decide) rfl (fun ls hl => ?_)
  refine lv_iload hx hb dX11_takeClause_174 (lv_at hl 0 rfl) ?_
  obtain ⟨hg176, hf⟩ := gd_s hf
  refine zv_if_ne (tgt := 198) hx hb hg176 dX11_takeClause_176 (by decide) (fun (c176 : ¬ (t0 = 0)) => ?_) (fun (c176 : t0 = 0) => ?_)
  · rw [if_neg c176] at hf
    exact wX11_takeClause_198 C hret σ t0 H locs ls hw (lv_sub hl [1, 0] rfl) hf
  · rw [if_pos c176] at hf
    refine lv_aload_n hx hb dX11_takeClause_179 rfl (lv_at hl 1 rfl) ?_
    obtain ⟨⟨r180, σ180⟩, h180, hf⟩ := bd_s hf
    have hf := hf2_s hf
    refine gVi (As := []) (rest := []) C hw (tX11_here h180) (cwV 0 hts gX11_takeClause_X11_here rfl rfl rfl (by decide +kernel) ⟨Nat.le_of_ble_eq_true rfl, Nat.le_of_ble_eq_true rfl⟩) 11 0 rfl rfl rfl hl.1 rfl (Nat.le_of_ble_eq_true rfl) dX11_takeClause_180 (fun H locs hw => ?_)
    refine lv_bipush (v := zI 59) hx hb dX11_takeClause_183 (by decide +kernel) ?_
    obtain ⟨hg185, hf⟩ := gd_s hf
    refine zv_icmp_eq (tgt := 198) hx hb ⟨hg185, by decide⟩ dX11_takeClause_185 (by decide) (fun (c185 : r180 = 59) => ?_) (fun (c185 : ¬ (r180 = 59)) => ?_)
    · rw [if_pos c185] at hf
      exact wX11_takeClause_198 C hret σ180 t0 H locs ls hw (lv_sub hl [1, 0] rfl) hf
    · rw [if_neg c185] at hf
      refine lv_aload_n hx hb dX11_takeClause_188 rfl (lv_at hl 1 rfl) ?_
      refine lv_iconst (v := zI 1) hx hb dX11_takeClause_189 rfl ?_
      refine lv_aload_n hx hb dX11_takeClause_190 rfl (lv_at hl 1 rfl) ?_
      refine va_get (D := D) (ci := 11) (v := .int (zI (σ180.1 7))) (C := RX11) (T := TX11) (N := 40) hx hb hts (fun _ h => List.mem_cons_of_mem _ (List.mem_append_right _ h)) hown hK hw.1 0 rfl rfl 14 (by decide) (hts (.fieldLink RX11 110 "EggThronesModel" "at0" "I") (List.mem_of_getElem? (i := 2) rfl)) (fun _ h9 => h9) rfl dX11_takeClause_191 ?_
      obtain ⟨⟨r194, σ194⟩, h194, hf⟩ := bd_s hf
      have hf := hf2_s hf
      refine gVi (As := [.int (zI 1), .int (zI (σ180.1 7))]) (rest := []) C hw (tX11_fails h194) (cwV 2 hts gX11_takeClause_X11_fails rfl rfl rfl (by decide +kernel) ⟨Nat.le_of_ble_eq_true rfl, Nat.le_of_ble_eq_true rfl⟩) 11 0 rfl rfl rfl hl.1 rfl (Nat.le_of_ble_eq_true rfl) dX11_takeClause_194 (fun H locs hw => ?_)
      cases hf
      exact hret H locs ls 197 dX11_takeClause_197 hw
set_option maxHeartbeats 4000000 in
set_option maxRecDepth 100000 in
theorem wX11_takeClause_120 {p : Program} {l : Launch} {e : Env} {s : State} {m : MethodId} {args : Array Value} {below : List Frame} {meth : Method} {c : Code} {D : va_G} {A : Nat → Prop} {q : Nat → Nat} {cI cZ : ClassId} {Q : State → Prop} {r : Int} {τ : St} (C : Cx p s m args meth c D (TY cI cZ) cX11_takeClause (some .int) 5 wsX11_takeClause RX11) (hret : RtI p l e rmX11_takeClause s m args below meth c D A cX11_takeClause Q (wM q cI cZ τ) (zI r)) :
    ∀ (σ : St) (x2 : Int) (t0 : Int) (H : Heap) (locs : List Loc) (ls : Array Slot), Wd D A s (wM q cI cZ σ) H locs → lv_has ls 5 [(0, .ref (q 0)), (2, .int (zI x2))] → pX11_takeClause_120 σ x2 t0 = some (r, τ) → W p l e rmX11_takeClause s m args below meth c H locs 0 0 Q (F0 m 120 ls [.int (zI t0)]) := by
  obtain ⟨hx, hb, hr, hml, hown, hts, hlk, hK, hN⟩ := id C
  intro σ x2 t0 H locs ls hw hl hf
  rw [pX11_takeClause_120] at hf
  refine lv_istore_n (lv' := [(3, .int (zI t0)), (0, .ref (q 0)), (2, .int (zI x2))]) hx hb dX11_takeClause_120 rfl hl (by decide) rfl (fun ls hl => ?_)
  refine lv_iload_n hx hb dX11_takeClause_121 rfl (lv_at hl 0 rfl) ?_
  obtain ⟨hg122, hf⟩ := gd_s hf
  refine zv_if_eq (tgt := 135) hx hb hg122 dX11_takeClause_122 (by decide) (fun (c122 : t0 = 0) => ?_) (fun (c122 : ¬ (t0 = 0)) => ?_)
  · rw [if_pos c122] at hf
    refine lv_aload_n hx hb dX11_takeClause_135 rfl (lv_at hl 1 rfl) ?_
    refine lv_dup hx hb dX11_takeClause_136 rfl ?_
    refine va_get (D := D) (ci := 11) (v := .int (zI (σ.1 7))) (C := RX11) (T := TX11) (N := 40) hx hb hts (fun _ h => List.mem_cons_of_mem _ (List.mem_append_right _ h)) hown hK hw.1 0 rfl rfl 14 (by decide) (hts (.fieldLink RX11 110 "EggThronesModel" "at0" "I") (List.mem_of_getElem? (i := 2) rfl)) (fun _ h9 => h9) rfl dX11_takeClause_137 ?_
    refine lv_iconst (v := zI 1) hx hb dX11_takeClause_140 rfl ?_
    refine zv_iadd hx hb dX11_takeClause_141 ?_
    refine va_put (D := D) (ci := 11) (v := .int (zI ((σ.1 7) + 1))) (ty := .int) (C := RX11) (T := TX11) (N := 40) hx hb hts (fun _ h => List.mem_cons_of_mem _ (List.mem_append_right _ h)) tyX11 tyX11_ok nmX11 hown hK hw.1 hw.2.1 hw.2.2 0 rfl rfl 14 (by decide) (hts (.fieldLink RX11 110 "EggThronesModel" "at0" "I") (List.mem_of_getElem? (i := 2) rfl)) (fun _ h9 => h9) rfl (by decide +kernel) rfl rfl (Nat.le_of_ble_eq_true rfl) dX11_takeClause_142 (fun H locs hP hD hS => ?_)
    have hw : Wd D A s (wM q cI cZ (sI σ 7 ((σ.1 7) + 1))) H locs := wdiM_7 hP hD hS
    obtain ⟨σ142, e142, hf⟩ := nm_s hf
    replace hf := bt_s hf
    rw [← e142] at hw
    refine lv_iload_n hx hb dX11_takeClause_145 rfl (lv_at hl 2 rfl) ?_
    obtain ⟨hg146, hf⟩ := gd_s hf
    refine zv_if_ne (tgt := 156) hx hb hg146 dX11_takeClause_146 (by decide) (fun (c146 : ¬ (x2 = 0)) => ?_) (fun (c146 : x2 = 0) => ?_)
    · rw [if_neg c146] at hf
      refine lv_iload_n hx hb dX11_takeClause_156 rfl (lv_at hl 2 rfl) ?_
      refine lv_iconst (v := zI 1) hx hb dX11_takeClause_157 rfl ?_
      obtain ⟨hg158, hf⟩ := gd_s hf
      refine zv_icmp_ne (tgt := 168) hx hb ⟨hg158, by decide⟩ dX11_takeClause_158 (by decide) (fun (c158 : ¬ (x2 = 1)) => ?_) (fun (c158 : x2 = 1) => ?_)
      · rw [if_neg c158] at hf
        refine lv_aload_n hx hb dX11_takeClause_168 rfl (lv_at hl 1 rfl) ?_
        obtain ⟨⟨r169, σ169⟩, h169, hf⟩ := bd_s hf
        have hf := hf2_s hf
        refine gVi (As := []) (rest := []) C hw (tX11_takeEater h169) (cwV 0 hts gX11_takeClause_X11_takeEater rfl rfl rfl (by decide +kernel) ⟨Nat.le_of_ble_eq_true rfl, Nat.le_of_ble_eq_true rfl⟩) 11 0 rfl rfl rfl hl.1 rfl (Nat.le_of_ble_eq_true rfl) dX11_takeClause_169 (fun H locs hw => ?_)
        exact wX11_takeClause_172 C hret σ169 r169 H locs ls hw (lv_sub hl [1] rfl) hf
      · rw [if_pos c158] at hf
        refine lv_aload_n hx hb dX11_takeClause_161 rfl (lv_at hl 1 rfl) ?_
        obtain ⟨⟨r162, σ162⟩, h162, hf⟩ := bd_s hf
        have hf := hf2_s hf
        refine gVi (As := []) (rest := []) C hw (tX11_takeEgg h162) (cwV 0 hts gX11_takeClause_X11_takeEgg rfl rfl rfl (by decide +kernel) ⟨Nat.le_of_ble_eq_true rfl, Nat.le_of_ble_eq_true rfl⟩) 11 0 rfl rfl rfl hl.1 rfl (Nat.le_of_ble_eq_true rfl) dX11_takeClause_162 (fun H locs hw => ?_)
        refine lv_goto (tgt := 172) hx hb dX11_takeClause_165 (by decide) ?_
        exact wX11_takeClause_172 C hret σ162 r162 H locs ls hw (lv_sub hl [1] rfl) hf
    · rw [if_pos c146] at hf
      refine lv_aload_n hx hb dX11_takeClause_149 rfl (lv_at hl 1 rfl) ?_
      obtain ⟨⟨r150, σ150⟩, h150, hf⟩ := bd_s hf
      have hf := hf2_s hf
      refine gVi (As := []) (rest := []) C hw (tX11_takePan h150) (cwV 0 hts gX11_takeClause_X11_takePan rfl rfl rfl (by decide +kernel) ⟨Nat.le_of_ble_eq_true rfl, Nat.le_of_ble_eq_true rfl⟩) 11 0 rfl rfl rfl hl.1 rfl (Nat.le_of_ble_eq_true rfl) dX11_takeClause_150 (fun H locs hw => ?_)
      refine lv_goto (tgt := 172) hx hb dX11_takeClause_153 (by decide) ?_
      exact wX11_takeClause_172 C hret σ150 r150 H locs ls hw (lv_sub hl [1] rfl) hf
  · rw [if_neg c122] at hf
    refine lv_aload_n hx hb dX11_takeClause_125 rfl (lv_at hl 1 rfl) ?_
    refine lv_iconst (v := zI 3) hx hb dX11_takeClause_126 rfl ?_
    refine lv_aload_n hx hb dX11_takeClause_127 rfl (lv_at hl 1 rfl) ?_
    refine va_get (D := D) (ci := 11) (v := .int (zI (σ.1 7))) (C := RX11) (T := TX11) (N := 40) hx hb hts (fun _ h => List.mem_cons_of_mem _ (List.mem_append_right _ h)) hown hK hw.1 0 rfl rfl 14 (by decide) (hts (.fieldLink RX11 110 "EggThronesModel" "at0" "I") (List.mem_of_getElem? (i := 2) rfl)) (fun _ h9 => h9) rfl dX11_takeClause_128 ?_
    obtain ⟨⟨r131, σ131⟩, h131, hf⟩ := bd_s hf
    have hf := hf2_s hf
    refine gVi (As := [.int (zI 3), .int (zI (σ.1 7))]) (rest := []) C hw (tX11_fails h131) (cwV 2 hts gX11_takeClause_X11_fails rfl rfl rfl (by decide +kernel) ⟨Nat.le_of_ble_eq_true rfl, Nat.le_of_ble_eq_true rfl⟩) 11 0 rfl rfl rfl hl.1 rfl (Nat.le_of_ble_eq_true rfl) dX11_takeClause_131 (fun H locs hw => ?_)
    cases hf
    exact hret H locs ls 134 dX11_takeClause_134 hw
set_option maxHeartbeats 4000000 in
set_option maxRecDepth 100000 in
theorem wX11_takeClause_64 {p : Program} {l : Launch} {e : Env} {s : State} {m : MethodId} {args : Array Value} {below : List Frame} {meth : Method} {c : Code} {D : va_G} {A : Nat → Prop} {q : Nat → Nat} {cI cZ : ClassId} {Q : State → Prop} {r : Int} {τ : St} (C : Cx p s m args meth c D (TY cI cZ) cX11_takeClause (some .int) 5 wsX11_takeClause RX11) (hret : RtI p l e rmX11_takeClause s m args below meth c D A cX11_takeClause Q (wM q cI cZ τ) (zI r)) :
    ∀ (σ : St) (x2 : Int) (H : Heap) (locs : List Loc) (ls : Array Slot), Wd D A s (wM q cI cZ σ) H locs → lv_has ls 5 [(0, .ref (q 0)), (2, .int (zI x2))] → pX11_takeClause_64 σ x2 = some (r, τ) → W p l e rmX11_takeClause s m args below meth c H locs 0 0 Q (F0 m 64 ls []) := by
  obtain ⟨hx, hb, hr, hml, hown, hts, hlk, hK, hN⟩ := id C
  intro σ x2 H locs ls hw hl hf
  rw [pX11_takeClause_64] at hf
  refine lv_iload_n hx hb dX11_takeClause_64 rfl (lv_at hl 1 rfl) ?_
  obtain ⟨hg65, hf⟩ := gd_s hf
  refine zv_if_ne (tgt := 85) hx hb hg65 dX11_takeClause_65 (by decide) (fun (c65 : ¬ (x2 = 0)) => ?_) (fun (c65 : x2 = 0) => ?_)
  · rw [if_neg c65] at hf
    refine lv_iload_n hx hb dX11_takeClause_85 rfl (lv_at hl 1 rfl) ?_
    refine lv_iconst (v := zI 1) hx hb dX11_takeClause_86 rfl ?_
    obtain ⟨hg87, hf⟩ := gd_s hf
    refine zv_icmp_ne (tgt := 107) hx hb ⟨hg87, by decide⟩ dX11_takeClause_87 (by decide) (fun (c87 : ¬ (x2 = 1)) => ?_) (fun (c87 : x2 = 1) => ?_)
    · rw [if_neg c87] at hf
      refine lv_aload_n hx hb dX11_takeClause_107 rfl (lv_at hl 0 rfl) ?_
      refine va_get (D := D) (ci := 11) (v := .int (zI (σ.1 11))) (C := RX11) (T := TX11) (N := 40) hx hb hts (fun _ h => List.mem_cons_of_mem _ (List.mem_append_right _ h)) hown hK hw.1 0 rfl rfl 21 (by decide) (hts (.fieldLink RX11 141 "EggThronesModel" "readEaters" "I") (List.mem_of_getElem? (i := 4) rfl)) (fun _ h9 => h9) rfl dX11_takeClause_108 ?_
      refine lv_iconst (v := zI 5) hx hb dX11_takeClause_111 rfl ?_
      obtain ⟨hg112, hf⟩ := gd_s hf
      refine zv_icmp_ne (tgt := 119) hx hb ⟨hg112, by decide⟩ dX11_takeClause_112 (by decide) (fun (c112 : ¬ ((σ.1 11) = 5)) => ?_) (fun (c112 : (σ.1 11) = 5) => ?_)
      · rw [if_neg c112] at hf
        refine lv_iconst (v := zI 0) hx hb dX11_takeClause_119 rfl ?_
        exact wX11_takeClause_120 C hret σ x2 0 H locs ls hw (lv_sub hl [0, 1] rfl) hf
      · rw [if_pos c112] at hf
        refine lv_iconst (v := zI 1) hx hb dX11_takeClause_115 rfl ?_
        refine lv_goto (tgt := 120) hx hb dX11_takeClause_116 (by decide) ?_
        exact wX11_takeClause_120 C hret σ x2 1 H locs ls hw (lv_sub hl [0, 1] rfl) hf
    · rw [if_pos c87] at hf
      refine lv_aload_n hx hb dX11_takeClause_90 rfl (lv_at hl 0 rfl) ?_
      refine va_get (D := D) (ci := 11) (v := .int (zI (σ.1 10))) (C := RX11) (T := TX11) (N := 40) hx hb hts (fun _ h => List.mem_cons_of_mem _ (List.mem_append_right _ h)) hown hK hw.1 0 rfl rfl 18 (by decide) (hts (.fieldLink RX11 138 "EggThronesModel" "readEggs" "I") (List.mem_of_getElem? (i := 3) rfl)) (fun _ h9 => h9) rfl dX11_takeClause_91 ?_
      refine lv_bipush (v := zI 7) hx hb dX11_takeClause_94 (by decide +kernel) ?_
      obtain ⟨hg96, hf⟩ := gd_s hf
      refine zv_icmp_ne (tgt := 103) hx hb ⟨hg96, by decide⟩ dX11_takeClause_96 (by decide) (fun (c96 : ¬ ((σ.1 10) = 7)) => ?_) (fun (c96 : (σ.1 10) = 7) => ?_)
      · rw [if_neg c96] at hf
        refine lv_iconst (v := zI 0) hx hb dX11_takeClause_103 rfl ?_
        refine lv_goto (tgt := 120) hx hb dX11_takeClause_104 (by decide) ?_
        exact wX11_takeClause_120 C hret σ x2 0 H locs ls hw (lv_sub hl [0, 1] rfl) hf
      · rw [if_pos c96] at hf
        refine lv_iconst (v := zI 1) hx hb dX11_takeClause_99 rfl ?_
        refine lv_goto (tgt := 120) hx hb dX11_takeClause_100 (by decide) ?_
        exact wX11_takeClause_120 C hret σ x2 1 H locs ls hw (lv_sub hl [0, 1] rfl) hf
  · rw [if_pos c65] at hf
    refine lv_aload_n hx hb dX11_takeClause_68 rfl (lv_at hl 0 rfl) ?_
    refine va_get (D := D) (ci := 11) (v := .ref (q 8)) (C := RX11) (T := TX11) (N := 40) hx hb hts (fun _ h => List.mem_cons_of_mem _ (List.mem_append_right _ h)) hown hK hw.1 0 rfl rfl 17 (by decide) (hts (.fieldLink RX11 35 "EggThronesModel" "readPan" "[I") (List.mem_of_getElem? (i := 1) rfl)) (fun _ h9 => h9) rfl dX11_takeClause_69 ?_
    refine lv_iconst (v := zI 0) hx hb dX11_takeClause_72 rfl ?_
    refine zv_iald (D := D) hx hb hK hw.1 8 0 rfl rfl (by decide) (by decide) dX11_takeClause_73 ?_
    obtain ⟨hg74, hf⟩ := gd_s hf
    refine zv_if_le (tgt := 81) hx hb hg74 dX11_takeClause_74 (by decide) (fun (c74 : (σ.2 7 0) ≤ 0) => ?_) (fun (c74 : ¬ ((σ.2 7 0) ≤ 0)) => ?_)
    · rw [if_pos c74] at hf
      refine lv_iconst (v := zI 0) hx hb dX11_takeClause_81 rfl ?_
      refine lv_goto (tgt := 120) hx hb dX11_takeClause_82 (by decide) ?_
      exact wX11_takeClause_120 C hret σ x2 0 H locs ls hw (lv_sub hl [0, 1] rfl) hf
    · rw [if_neg c74] at hf
      refine lv_iconst (v := zI 1) hx hb dX11_takeClause_77 rfl ?_
      refine lv_goto (tgt := 120) hx hb dX11_takeClause_78 (by decide) ?_
      exact wX11_takeClause_120 C hret σ x2 1 H locs ls hw (lv_sub hl [0, 1] rfl) hf
set_option maxHeartbeats 4000000 in
set_option maxRecDepth 100000 in
theorem wX11_takeClause_36 {p : Program} {l : Launch} {e : Env} {s : State} {m : MethodId} {args : Array Value} {below : List Frame} {meth : Method} {c : Code} {D : va_G} {A : Nat → Prop} {q : Nat → Nat} {cI cZ : ClassId} {Q : State → Prop} {r : Int} {τ : St} (C : Cx p s m args meth c D (TY cI cZ) cX11_takeClause (some .int) 5 wsX11_takeClause RX11) (hret : RtI p l e rmX11_takeClause s m args below meth c D A cX11_takeClause Q (wM q cI cZ τ) (zI r)) :
    ∀ (σ : St) (t0 : Int) (H : Heap) (locs : List Loc) (ls : Array Slot), Wd D A s (wM q cI cZ σ) H locs → lv_has ls 5 [(0, .ref (q 0))] → pX11_takeClause_36 σ t0 = some (r, τ) → W p l e rmX11_takeClause s m args below meth c H locs 0 0 Q (F0 m 36 ls [.int (zI t0)]) := by
  obtain ⟨hx, hb, hr, hml, hown, hts, hlk, hK, hN⟩ := id C
  intro σ t0 H locs ls hw hl hf
  rw [pX11_takeClause_36] at hf
  refine lv_istore_n (lv' := [(2, .int (zI t0)), (0, .ref (q 0))]) hx hb dX11_takeClause_36 rfl hl (by decide) rfl (fun ls hl => ?_)
  refine lv_iload_n hx hb dX11_takeClause_37 rfl (lv_at hl 0 rfl) ?_
  obtain ⟨hg38, hf⟩ := gd_s hf
  refine zv_if_lt (tgt := 54) hx hb hg38 dX11_takeClause_38 (by decide) (fun (c38 : t0 < 0) => ?_) (fun (c38 : ¬ (t0 < 0)) => ?_)
  · rw [if_pos c38] at hf
    exact wX11_takeClause_54 C hret σ H locs ls hw (lv_sub hl [1] rfl) hf
  · rw [if_neg c38] at hf
    refine lv_iload_n hx hb dX11_takeClause_41 rfl (lv_at hl 0 rfl) ?_
    obtain ⟨hg42, hf⟩ := gd_s hf
    refine zv_if_le (tgt := 64) hx hb hg42 dX11_takeClause_42 (by decide) (fun (c42 : t0 ≤ 0) => ?_) (fun (c42 : ¬ (t0 ≤ 0)) => ?_)
    · rw [if_pos c42] at hf
      exact wX11_takeClause_64 C hret σ t0 H locs ls hw (lv_sub hl [1, 0] rfl) hf
    · rw [if_neg c42] at hf
      refine lv_aload_n hx hb dX11_takeClause_45 rfl (lv_at hl 1 rfl) ?_
      refine va_get (D := D) (ci := 11) (v := .ref (q 8)) (C := RX11) (T := TX11) (N := 40) hx hb hts (fun _ h => List.mem_cons_of_mem _ (List.mem_append_right _ h)) hown hK hw.1 0 rfl rfl 17 (by decide) (hts (.fieldLink RX11 35 "EggThronesModel" "readPan" "[I") (List.mem_of_getElem? (i := 1) rfl)) (fun _ h9 => h9) rfl dX11_takeClause_46 ?_
      refine lv_iconst (v := zI 0) hx hb dX11_takeClause_49 rfl ?_
      refine zv_iald (D := D) hx hb hK hw.1 8 0 rfl rfl (by decide) (by decide) dX11_takeClause_50 ?_
      obtain ⟨hg51, hf⟩ := gd_s hf
      refine zv_if_ne (tgt := 64) hx hb hg51 dX11_takeClause_51 (by decide) (fun (c51 : ¬ ((σ.2 7 0) = 0)) => ?_) (fun (c51 : (σ.2 7 0) = 0) => ?_)
      · rw [if_neg c51] at hf
        exact wX11_takeClause_64 C hret σ t0 H locs ls hw (lv_sub hl [1, 0] rfl) hf
      · rw [if_pos c51] at hf
        exact wX11_takeClause_54 C hret σ H locs ls hw (lv_sub hl [1] rfl) hf
set_option maxHeartbeats 4000000 in
set_option maxRecDepth 100000 in
theorem wX11_takeClause_0 {p : Program} {l : Launch} {e : Env} {s : State} {m : MethodId} {args : Array Value} {below : List Frame} {meth : Method} {c : Code} {D : va_G} {A : Nat → Prop} {q : Nat → Nat} {cI cZ : ClassId} {Q : State → Prop} {r : Int} {τ : St} (C : Cx p s m args meth c D (TY cI cZ) cX11_takeClause (some .int) 5 wsX11_takeClause RX11) (hret : RtI p l e rmX11_takeClause s m args below meth c D A cX11_takeClause Q (wM q cI cZ τ) (zI r)) :
    ∀ (σ : St) (H : Heap) (locs : List Loc) (ls : Array Slot), Wd D A s (wM q cI cZ σ) H locs → lv_has ls 5 [(0, .ref (q 0))] → pX11_takeClause_0 σ = some (r, τ) → W p l e rmX11_takeClause s m args below meth c H locs 0 0 Q (F0 m 0 ls []) := by
  obtain ⟨hx, hb, hr, hml, hown, hts, hlk, hK, hN⟩ := id C
  intro σ H locs ls hw hl hf
  rw [pX11_takeClause_0] at hf
  refine lv_aload_n hx hb dX11_takeClause_0 rfl (lv_at hl 0 rfl) ?_
  obtain ⟨⟨r1, σ1⟩, h1, hf⟩ := bd_s hf
  have hf := hf2_s hf
  refine gVi (As := []) (rest := []) C hw (tX11_here h1) (cwV 0 hts gX11_takeClause_X11_here rfl rfl rfl (by decide +kernel) ⟨Nat.le_of_ble_eq_true rfl, Nat.le_of_ble_eq_true rfl⟩) 11 0 rfl rfl rfl hl.1 rfl (Nat.le_of_ble_eq_true rfl) dX11_takeClause_1 (fun H locs hw => ?_)
  refine lv_istore_n (lv' := [(1, .int (zI r1)), (0, .ref (q 0))]) hx hb dX11_takeClause_4 rfl hl (by decide) rfl (fun ls hl => ?_)
  refine lv_iload_n hx hb dX11_takeClause_5 rfl (lv_at hl 0 rfl) ?_
  refine lv_bipush (v := zI 112) hx hb dX11_takeClause_6 (by decide +kernel) ?_
  obtain ⟨hg8, hf⟩ := gd_s hf
  refine zv_icmp_ne (tgt := 15) hx hb ⟨hg8, by decide⟩ dX11_takeClause_8 (by decide) (fun (c8 : ¬ (r1 = 112)) => ?_) (fun (c8 : r1 = 112) => ?_)
  · rw [if_neg c8] at hf
    refine lv_iload_n hx hb dX11_takeClause_15 rfl (lv_at hl 0 rfl) ?_
    refine lv_bipush (v := zI 101) hx hb dX11_takeClause_16 (by decide +kernel) ?_
    obtain ⟨hg18, hf⟩ := gd_s hf
    refine zv_icmp_ne (tgt := 25) hx hb ⟨hg18, by decide⟩ dX11_takeClause_18 (by decide) (fun (c18 : ¬ (r1 = 101)) => ?_) (fun (c18 : r1 = 101) => ?_)
    · rw [if_neg c18] at hf
      refine lv_iload_n hx hb dX11_takeClause_25 rfl (lv_at hl 0 rfl) ?_
      refine lv_bipush (v := zI 109) hx hb dX11_takeClause_26 (by decide +kernel) ?_
      obtain ⟨hg28, hf⟩ := gd_s hf
      refine zv_icmp_ne (tgt := 35) hx hb ⟨hg28, by decide⟩ dX11_takeClause_28 (by decide) (fun (c28 : ¬ (r1 = 109)) => ?_) (fun (c28 : r1 = 109) => ?_)
      · rw [if_neg c28] at hf
        refine lv_iconst (v := zI (-1)) hx hb dX11_takeClause_35 rfl ?_
        exact wX11_takeClause_36 C hret σ1 (-1) H locs ls hw (lv_sub hl [1] rfl) hf
      · rw [if_pos c28] at hf
        refine lv_iconst (v := zI 2) hx hb dX11_takeClause_31 rfl ?_
        refine lv_goto (tgt := 36) hx hb dX11_takeClause_32 (by decide) ?_
        exact wX11_takeClause_36 C hret σ1 2 H locs ls hw (lv_sub hl [1] rfl) hf
    · rw [if_pos c18] at hf
      refine lv_iconst (v := zI 1) hx hb dX11_takeClause_21 rfl ?_
      refine lv_goto (tgt := 36) hx hb dX11_takeClause_22 (by decide) ?_
      exact wX11_takeClause_36 C hret σ1 1 H locs ls hw (lv_sub hl [1] rfl) hf
  · rw [if_pos c8] at hf
    refine lv_iconst (v := zI 0) hx hb dX11_takeClause_11 rfl ?_
    refine lv_goto (tgt := 36) hx hb dX11_takeClause_12 (by decide) ?_
    exact wX11_takeClause_36 C hret σ1 0 H locs ls hw (lv_sub hl [1] rfl) hf
set_option maxHeartbeats 4000000 in
set_option maxRecDepth 100000 in
theorem tX11_takeClause {l : Launch} {D : va_G} {A : Nat → Prop} {cI cZ : ClassId} {q : Nat → Nat} {σ : St} {r : Int} {τ : St} (hf : pX11_takeClause σ = some (r, τ)) : Met l yX11_takeClause wsX11_takeClause rmX11_takeClause (va_Pc [.ref (q 0)] (CX D (TY cI cZ) A (wM q cI cZ σ))) (QI D (TY cI cZ) A (wM q cI cZ τ) (zI r)) 0 0 A := by
  refine opn (cc := cX11_takeClause) (maxL := 5) (ret := (some .int)) (by decide) rfl (Nat.le_of_ble_eq_true rfl) (fun p e s m below meth c C ls hw hl => ?_)
  have hl : lv_has ls 5 [(0, .ref (q 0))] := hl
  rw [pX11_takeClause] at hf
  exact wX11_takeClause_0 C (rtI C) σ _ _ ls hw (lv_sub hl [0] rfl) hf
abbrev rmX11_table : Room := { frames := 5, cells := 0, slots := 0, locals := 119 }
set_option maxHeartbeats 4000000 in
set_option maxRecDepth 100000 in
theorem wX11_table_61 {p : Program} {l : Launch} {e : Env} {s : State} {m : MethodId} {args : Array Value} {below : List Frame} {meth : Method} {c : Code} {D : va_G} {A : Nat → Prop} {q : Nat → Nat} {cI cZ : ClassId} {Q : State → Prop} {r : Int} {τ : St} (C : Cx p s m args meth c D (TY cI cZ) cX11_table (some .int) 2 wsX11_table RX11) (hret : RtI p l e rmX11_table s m args below meth c D A cX11_table Q (wM q cI cZ τ) (zI r)) :
    ∀ (σ : St) (x1 : Int) (H : Heap) (locs : List Loc) (ls : Array Slot), Wd D A s (wM q cI cZ σ) H locs → lv_has ls 2 [(0, .ref (q 0)), (1, .int (zI x1))] → pX11_table_61 σ x1 = some (r, τ) → W p l e rmX11_table s m args below meth c H locs 0 0 Q (F0 m 61 ls []) := by
  obtain ⟨hx, hb, hr, hml, hown, hts, hlk, hK, hN⟩ := id C
  intro σ x1 H locs ls hw hl hf
  rw [pX11_table_61] at hf
  refine lv_aload_n hx hb dX11_table_61 rfl (lv_at hl 0 rfl) ?_
  refine lv_iconst (v := zI 0) hx hb dX11_table_62 rfl ?_
  refine va_put (D := D) (ci := 11) (v := .int (zI 0)) (ty := .int) (C := RX11) (T := TX11) (N := 40) hx hb hts (fun _ h => List.mem_cons_of_mem _ (List.mem_append_right _ h)) tyX11 tyX11_ok nmX11 hown hK hw.1 hw.2.1 hw.2.2 0 rfl rfl 12 (by decide) (hts (.fieldLink RX11 106 "EggThronesModel" "texted" "I") (List.mem_of_getElem? (i := 6) rfl)) (fun _ h9 => h9) rfl (by decide +kernel) rfl rfl (Nat.le_of_ble_eq_true rfl) dX11_table_63 (fun H locs hP hD hS => ?_)
  have hw : Wd D A s (wM q cI cZ (sI σ 5 0)) H locs := wdiM_5 hP hD hS
  obtain ⟨σ63, e63, hf⟩ := nm_s hf
  replace hf := bt_s hf
  rw [← e63] at hw
  refine lv_iload_n hx hb dX11_table_66 rfl (lv_at hl 1 rfl) ?_
  obtain ⟨hg67, hf⟩ := gd_s hf
  refine zv_if_le (tgt := 75) hx hb hg67 dX11_table_67 (by decide) (fun (c67 : x1 ≤ 0) => ?_) (fun (c67 : ¬ (x1 ≤ 0)) => ?_)
  · rw [if_pos c67] at hf
    refine lv_aload_n hx hb dX11_table_75 rfl (lv_at hl 0 rfl) ?_
    obtain ⟨σ76, h76, hf⟩ := bd_s hf
    replace hf := bt_s hf
    refine gVv (As := []) (rest := []) C hw (tX11_takeRead h76) (cwV 0 hts gX11_table_X11_takeRead rfl rfl rfl (by decide +kernel) ⟨Nat.le_of_ble_eq_true rfl, Nat.le_of_ble_eq_true rfl⟩) 11 0 rfl rfl rfl hl.1 rfl (Nat.le_of_ble_eq_true rfl) dX11_table_76 (fun H locs hw => ?_)
    refine lv_aload_n hx hb dX11_table_79 rfl (lv_at hl 0 rfl) ?_
    refine lv_iconst (v := zI 0) hx hb dX11_table_80 rfl ?_
    refine va_put (D := D) (ci := 11) (v := .int (zI 0)) (ty := .int) (C := RX11) (T := TX11) (N := 40) hx hb hts (fun _ h => List.mem_cons_of_mem _ (List.mem_append_right _ h)) tyX11 tyX11_ok nmX11 hown hK hw.1 hw.2.1 hw.2.2 0 rfl rfl 31 (by decide) (hts (.fieldLink RX11 162 "EggThronesModel" "seen" "I") (List.mem_of_getElem? (i := 7) rfl)) (fun _ h9 => h9) rfl (by decide +kernel) rfl rfl (Nat.le_of_ble_eq_true rfl) dX11_table_81 (fun H locs hP hD hS => ?_)
    have hw : Wd D A s (wM q cI cZ (sI σ76 13 0)) H locs := wdiM_13 hP hD hS
    obtain ⟨σ81, e81, hf⟩ := nm_s hf
    replace hf := bt_s hf
    rw [← e81] at hw
    refine lv_aload_n hx hb dX11_table_84 rfl (lv_at hl 0 rfl) ?_
    refine lv_iconst (v := zI 0) hx hb dX11_table_85 rfl ?_
    refine va_put (D := D) (ci := 11) (v := .int (zI 0)) (ty := .int) (C := RX11) (T := TX11) (N := 40) hx hb hts (fun _ h => List.mem_cons_of_mem _ (List.mem_append_right _ h)) tyX11 tyX11_ok nmX11 hown hK hw.1 hw.2.1 hw.2.2 0 rfl rfl 35 (by decide) (hts (.fieldLink RX11 165 "EggThronesModel" "booked" "I") (List.mem_of_getElem? (i := 8) rfl)) (fun _ h9 => h9) rfl (by decide +kernel) rfl rfl (Nat.le_of_ble_eq_true rfl) dX11_table_86 (fun H locs hP hD hS => ?_)
    have hw : Wd D A s (wM q cI cZ (sI σ81 14 0)) H locs := wdiM_14 hP hD hS
    obtain ⟨σ86, e86, hf⟩ := nm_s hf
    replace hf := bt_s hf
    rw [← e86] at hw
    refine lv_aload_n hx hb dX11_table_89 rfl (lv_at hl 0 rfl) ?_
    refine lv_iconst (v := zI 0) hx hb dX11_table_90 rfl ?_
    refine va_put (D := D) (ci := 11) (v := .int (zI 0)) (ty := .int) (C := RX11) (T := TX11) (N := 40) hx hb hts (fun _ h => List.mem_cons_of_mem _ (List.mem_append_right _ h)) tyX11 tyX11_ok nmX11 hown hK hw.1 hw.2.1 hw.2.2 0 rfl rfl 24 (by decide) (hts (.fieldLink RX11 168 "EggThronesModel" "undos" "I") (List.mem_of_getElem? (i := 9) rfl)) (fun _ h9 => h9) rfl (by decide +kernel) rfl rfl (Nat.le_of_ble_eq_true rfl) dX11_table_91 (fun H locs hP hD hS => ?_)
    have hw : Wd D A s (wM q cI cZ (sI σ86 12 0)) H locs := wdiM_12 hP hD hS
    obtain ⟨σ91, e91, hf⟩ := nm_s hf
    replace hf := bt_s hf
    rw [← e91] at hw
    refine lv_aload_n hx hb dX11_table_94 rfl (lv_at hl 0 rfl) ?_
    refine va_get (D := D) (ci := 11) (v := .ref (q 25)) (C := RX11) (T := TX11) (N := 40) hx hb hts (fun _ h => List.mem_cons_of_mem _ (List.mem_append_right _ h)) hown hK hw.1 0 rfl rfl 39 (by decide) (hts (.fieldLink RX11 86 "EggThronesModel" "isKept" "[Z") (List.mem_of_getElem? (i := 10) rfl)) (fun _ h9 => h9) rfl dX11_table_95 ?_
    refine lv_iconst (v := zI 0) hx hb dX11_table_98 rfl ?_
    refine lv_iconst (v := zI 0) hx hb dX11_table_99 rfl ?_
    refine zv_zast (D := D) hx hb hK hw.1 hw.2.1 hw.2.2 25 1 rfl rfl (by decide) (by decide) (by decide) dX11_table_100 (fun H locs hP hD hS => ?_)
    have hw : Wd D A s (wM q cI cZ (sA σ91 24 (va_up (σ91.2 24) 0 0))) H locs := wdaM_24 hP hD hS
    obtain ⟨σ100, e100, hf⟩ := nm_s hf
    replace hf := bt_s hf
    rw [← e100] at hw
    refine lv_aload_n hx hb dX11_table_101 rfl (lv_at hl 0 rfl) ?_
    refine va_get (D := D) (ci := 11) (v := .ref (q 25)) (C := RX11) (T := TX11) (N := 40) hx hb hts (fun _ h => List.mem_cons_of_mem _ (List.mem_append_right _ h)) hown hK hw.1 0 rfl rfl 39 (by decide) (hts (.fieldLink RX11 86 "EggThronesModel" "isKept" "[Z") (List.mem_of_getElem? (i := 10) rfl)) (fun _ h9 => h9) rfl dX11_table_102 ?_
    refine lv_iconst (v := zI 1) hx hb dX11_table_105 rfl ?_
    refine lv_iconst (v := zI 0) hx hb dX11_table_106 rfl ?_
    refine zv_zast (D := D) hx hb hK hw.1 hw.2.1 hw.2.2 25 1 rfl rfl (by decide) (by decide) (by decide) dX11_table_107 (fun H locs hP hD hS => ?_)
    have hw : Wd D A s (wM q cI cZ (sA σ100 24 (va_up (σ100.2 24) 1 0))) H locs := wdaM_24 hP hD hS
    obtain ⟨σ107, e107, hf⟩ := nm_s hf
    replace hf := bt_s hf
    rw [← e107] at hw
    refine lv_aload_n hx hb dX11_table_108 rfl (lv_at hl 0 rfl) ?_
    refine va_get (D := D) (ci := 11) (v := .int (zI (σ107.1 2))) (C := RX11) (T := TX11) (N := 40) hx hb hts (fun _ h => List.mem_cons_of_mem _ (List.mem_append_right _ h)) hown hK hw.1 0 rfl rfl 2 (by decide) (hts (.fieldLink RX11 93 "EggThronesModel" "eggs" "I") (List.mem_of_getElem? (i := 11) rfl)) (fun _ h9 => h9) rfl dX11_table_109 ?_
    cases hf
    exact hret H locs ls 112 dX11_table_112 hw
  · rw [if_neg c67] at hf
    refine lv_bipush (v := zI (-10)) hx hb dX11_table_70 (by decide +kernel) ?_
    refine lv_iload_n hx hb dX11_table_72 rfl (lv_at hl 1 rfl) ?_
    refine zv_isub hx hb dX11_table_73 ?_
    cases hf
    exact hret H locs ls 74 dX11_table_74 hw
set_option maxHeartbeats 4000000 in
set_option maxRecDepth 100000 in
theorem wX11_table_42 {p : Program} {l : Launch} {e : Env} {s : State} {m : MethodId} {args : Array Value} {below : List Frame} {meth : Method} {c : Code} {D : va_G} {A : Nat → Prop} {q : Nat → Nat} {cI cZ : ClassId} {Q : State → Prop} {r : Int} {τ : St} (C : Cx p s m args meth c D (TY cI cZ) cX11_table (some .int) 2 wsX11_table RX11) (hret : RtI p l e rmX11_table s m args below meth c D A cX11_table Q (wM q cI cZ τ) (zI r)) :
    ∀ (n : Nat) (σ : St) (x1 : Int) (H : Heap) (locs : List Loc) (ls : Array Slot), Wd D A s (wM q cI cZ σ) H locs → lv_has ls 2 [(0, .ref (q 0)), (1, .int (zI x1))] → pX11_table_42 n σ x1 = some (r, τ) → W p l e rmX11_table s m args below meth c H locs 0 0 Q (F0 m 42 ls []) := by
  obtain ⟨hx, hb, hr, hml, hown, hts, hlk, hK, hN⟩ := id C
  intro n
  induction n with
  | zero =>
    intro σ x1 H locs ls hw hl hf
    exact absurd (show (none : Option (Int × St)) = some (r, τ) from hf) (by simp)
  | succ n ih =>
    intro σ x1 H locs ls hw hl hf
    rw [pX11_table_42] at hf
    refine lv_iload_n hx hb dX11_table_42 rfl (lv_at hl 1 rfl) ?_
    obtain ⟨hg43, hf⟩ := gd_s hf
    refine zv_if_ne (tgt := 61) hx hb hg43 dX11_table_43 (by decide) (fun (c43 : ¬ (x1 = 0)) => ?_) (fun (c43 : x1 = 0) => ?_)
    · rw [if_neg c43] at hf
      exact wX11_table_61 C hret σ x1 H locs ls hw (lv_sub hl [0, 1] rfl) hf
    · rw [if_pos c43] at hf
      refine lv_aload_n hx hb dX11_table_46 rfl (lv_at hl 0 rfl) ?_
      obtain ⟨⟨r47, σ47⟩, h47, hf⟩ := bd_s hf
      have hf := hf2_s hf
      refine gVi (As := []) (rest := []) C hw (tX11_here h47) (cwV 0 hts gX11_table_X11_here rfl rfl rfl (by decide +kernel) ⟨Nat.le_of_ble_eq_true rfl, Nat.le_of_ble_eq_true rfl⟩) 11 0 rfl rfl rfl hl.1 rfl (Nat.le_of_ble_eq_true rfl) dX11_table_47 (fun H locs hw => ?_)
      obtain ⟨hg50, hf⟩ := gd_s hf
      refine zv_if_lt (tgt := 61) hx hb hg50 dX11_table_50 (by decide) (fun (c50 : r47 < 0) => ?_) (fun (c50 : ¬ (r47 < 0)) => ?_)
      · rw [if_pos c50] at hf
        exact wX11_table_61 C hret σ47 x1 H locs ls hw (lv_sub hl [0, 1] rfl) hf
      · rw [if_neg c50] at hf
        refine lv_aload_n hx hb dX11_table_53 rfl (lv_at hl 0 rfl) ?_
        obtain ⟨⟨r54, σ54⟩, h54, hf⟩ := bd_s hf
        have hf := hf2_s hf
        refine gVi (As := []) (rest := []) C hw (tX11_takeClause h54) (cwV 0 hts gX11_table_X11_takeClause rfl rfl rfl (by decide +kernel) ⟨Nat.le_of_ble_eq_true rfl, Nat.le_of_ble_eq_true rfl⟩) 11 0 rfl rfl rfl hl.1 rfl (Nat.le_of_ble_eq_true rfl) dX11_table_54 (fun H locs hw => ?_)
        refine lv_istore_n (lv' := [(1, .int (zI r54)), (0, .ref (q 0))]) hx hb dX11_table_57 rfl hl (by decide) rfl (fun ls hl => ?_)
        refine lv_goto (tgt := 42) hx hb dX11_table_58 (by decide) ?_
        exact ih σ54 r54 H locs ls hw (lv_sub hl [1, 0] rfl) hf
set_option maxHeartbeats 4000000 in
set_option maxRecDepth 100000 in
theorem wX11_table_12 {p : Program} {l : Launch} {e : Env} {s : State} {m : MethodId} {args : Array Value} {below : List Frame} {meth : Method} {c : Code} {D : va_G} {A : Nat → Prop} {q : Nat → Nat} {cI cZ : ClassId} {Q : State → Prop} {r : Int} {τ : St} (C : Cx p s m args meth c D (TY cI cZ) cX11_table (some .int) 2 wsX11_table RX11) (hret : RtI p l e rmX11_table s m args below meth c D A cX11_table Q (wM q cI cZ τ) (zI r)) :
    ∀ (n : Nat) (σ : St) (x1 : Int) (H : Heap) (locs : List Loc) (ls : Array Slot), Wd D A s (wM q cI cZ σ) H locs → lv_has ls 2 [(0, .ref (q 0)), (1, .int (zI x1))] → pX11_table_12 n σ x1 = some (r, τ) → W p l e rmX11_table s m args below meth c H locs 0 0 Q (F0 m 12 ls []) := by
  obtain ⟨hx, hb, hr, hml, hown, hts, hlk, hK, hN⟩ := id C
  intro n
  induction n with
  | zero =>
    intro σ x1 H locs ls hw hl hf
    exact absurd (show (none : Option (Int × St)) = some (r, τ) from hf) (by simp)
  | succ n ih =>
    intro σ x1 H locs ls hw hl hf
    rw [pX11_table_12] at hf
    refine lv_iload_n hx hb dX11_table_12 rfl (lv_at hl 1 rfl) ?_
    refine lv_iconst (v := zI 3) hx hb dX11_table_13 rfl ?_
    obtain ⟨hg14, hf⟩ := gd_s hf
    refine zv_icmp_ge (tgt := 30) hx hb ⟨hg14, by decide⟩ dX11_table_14 (by decide) (fun (c14 : 3 ≤ x1) => ?_) (fun (c14 : ¬ (3 ≤ x1)) => ?_)
    · rw [if_pos c14] at hf
      refine lv_aload_n hx hb dX11_table_30 rfl (lv_at hl 0 rfl) ?_
      refine lv_iconst (v := zI 0) hx hb dX11_table_31 rfl ?_
      refine va_put (D := D) (ci := 11) (v := .int (zI 0)) (ty := .int) (C := RX11) (T := TX11) (N := 40) hx hb hts (fun _ h => List.mem_cons_of_mem _ (List.mem_append_right _ h)) tyX11 tyX11_ok nmX11 hown hK hw.1 hw.2.1 hw.2.2 0 rfl rfl 18 (by decide) (hts (.fieldLink RX11 138 "EggThronesModel" "readEggs" "I") (List.mem_of_getElem? (i := 4) rfl)) (fun _ h9 => h9) rfl (by decide +kernel) rfl rfl (Nat.le_of_ble_eq_true rfl) dX11_table_32 (fun H locs hP hD hS => ?_)
      have hw : Wd D A s (wM q cI cZ (sI σ 10 0)) H locs := wdiM_10 hP hD hS
      obtain ⟨σ32, e32, hf⟩ := nm_s hf
      replace hf := bt_s hf
      rw [← e32] at hw
      refine lv_aload_n hx hb dX11_table_35 rfl (lv_at hl 0 rfl) ?_
      refine lv_iconst (v := zI 0) hx hb dX11_table_36 rfl ?_
      refine va_put (D := D) (ci := 11) (v := .int (zI 0)) (ty := .int) (C := RX11) (T := TX11) (N := 40) hx hb hts (fun _ h => List.mem_cons_of_mem _ (List.mem_append_right _ h)) tyX11 tyX11_ok nmX11 hown hK hw.1 hw.2.1 hw.2.2 0 rfl rfl 21 (by decide) (hts (.fieldLink RX11 141 "EggThronesModel" "readEaters" "I") (List.mem_of_getElem? (i := 5) rfl)) (fun _ h9 => h9) rfl (by decide +kernel) rfl rfl (Nat.le_of_ble_eq_true rfl) dX11_table_37 (fun H locs hP hD hS => ?_)
      have hw : Wd D A s (wM q cI cZ (sI σ32 11 0)) H locs := wdiM_11 hP hD hS
      obtain ⟨σ37, e37, hf⟩ := nm_s hf
      replace hf := bt_s hf
      rw [← e37] at hw
      refine lv_iconst (v := zI 0) hx hb dX11_table_40 rfl ?_
      refine lv_istore_n (lv' := [(1, .int (zI 0)), (0, .ref (q 0))]) hx hb dX11_table_41 rfl hl (by decide) rfl (fun ls hl => ?_)
      exact wX11_table_42 C hret FU σ37 0 H locs ls hw (lv_sub hl [1, 0] rfl) hf
    · rw [if_neg c14] at hf
      refine lv_aload_n hx hb dX11_table_17 rfl (lv_at hl 0 rfl) ?_
      refine va_get (D := D) (ci := 11) (v := .ref (q 8)) (C := RX11) (T := TX11) (N := 40) hx hb hts (fun _ h => List.mem_cons_of_mem _ (List.mem_append_right _ h)) hown hK hw.1 0 rfl rfl 17 (by decide) (hts (.fieldLink RX11 35 "EggThronesModel" "readPan" "[I") (List.mem_of_getElem? (i := 3) rfl)) (fun _ h9 => h9) rfl dX11_table_18 ?_
      refine lv_iload_n hx hb dX11_table_21 rfl (lv_at hl 1 rfl) ?_
      refine lv_iconst (v := zI 0) hx hb dX11_table_22 rfl ?_
      obtain ⟨hi23, hf⟩ := gd_s hf
      refine zv_iast (D := D) hx hb hK hw.1 hw.2.1 hw.2.2 8 0 rfl rfl hi23 (by decide) dX11_table_23 (fun H locs hP hD hS => ?_)
      have hw : Wd D A s (wM q cI cZ (sA σ 7 (va_up (σ.2 7) (Int.toNat x1) 0))) H locs := wdaM_7 hP hD hS
      obtain ⟨σ23, e23, hf⟩ := nm_s hf
      replace hf := bt_s hf
      rw [← e23] at hw
      refine lv_iinc (v := zI (x1 + 1)) (lv' := [(1, .int (zI (x1 + 1))), (0, .ref (q 0))]) hx hb dX11_table_24 hl (k := 1) rfl (zI_add _ _) (by decide) rfl (fun ls hl => ?_)
      refine lv_goto (tgt := 12) hx hb dX11_table_27 (by decide) ?_
      exact ih σ23 (x1 + 1) H locs ls hw (lv_sub hl [1, 0] rfl) hf
set_option maxHeartbeats 4000000 in
set_option maxRecDepth 100000 in
theorem wX11_table_0 {p : Program} {l : Launch} {e : Env} {s : State} {m : MethodId} {args : Array Value} {below : List Frame} {meth : Method} {c : Code} {D : va_G} {A : Nat → Prop} {q : Nat → Nat} {cI cZ : ClassId} {Q : State → Prop} {r : Int} {τ : St} (C : Cx p s m args meth c D (TY cI cZ) cX11_table (some .int) 2 wsX11_table RX11) (hret : RtI p l e rmX11_table s m args below meth c D A cX11_table Q (wM q cI cZ τ) (zI r)) :
    ∀ (σ : St) (H : Heap) (locs : List Loc) (ls : Array Slot), Wd D A s (wM q cI cZ σ) H locs → lv_has ls 2 [(0, .ref (q 0))] → pX11_table_0 σ = some (r, τ) → W p l e rmX11_table s m args below meth c H locs 0 0 Q (F0 m 0 ls []) := by
  obtain ⟨hx, hb, hr, hml, hown, hts, hlk, hK, hN⟩ := id C
  intro σ H locs ls hw hl hf
  rw [pX11_table_0] at hf
  refine lv_aload_n hx hb dX11_table_0 rfl (lv_at hl 0 rfl) ?_
  refine lv_iconst (v := zI (-1)) hx hb dX11_table_1 rfl ?_
  refine va_put (D := D) (ci := 11) (v := .int (zI (-1))) (ty := .int) (C := RX11) (T := TX11) (N := 40) hx hb hts (fun _ h => List.mem_cons_of_mem _ (List.mem_append_right _ h)) tyX11 tyX11_ok nmX11 hown hK hw.1 hw.2.1 hw.2.2 0 rfl rfl 13 (by decide) (hts (.fieldLink RX11 31 "EggThronesModel" "faultPlace" "I") (List.mem_of_getElem? (i := 1) rfl)) (fun _ h9 => h9) rfl (by decide +kernel) rfl rfl (Nat.le_of_ble_eq_true rfl) dX11_table_2 (fun H locs hP hD hS => ?_)
  have hw : Wd D A s (wM q cI cZ (sI σ 6 (-1))) H locs := wdiM_6 hP hD hS
  obtain ⟨σ2, e2, hf⟩ := nm_s hf
  replace hf := bt_s hf
  rw [← e2] at hw
  refine lv_aload_n hx hb dX11_table_5 rfl (lv_at hl 0 rfl) ?_
  refine lv_iconst (v := zI 0) hx hb dX11_table_6 rfl ?_
  refine va_put (D := D) (ci := 11) (v := .int (zI 0)) (ty := .int) (C := RX11) (T := TX11) (N := 40) hx hb hts (fun _ h => List.mem_cons_of_mem _ (List.mem_append_right _ h)) tyX11 tyX11_ok nmX11 hown hK hw.1 hw.2.1 hw.2.2 0 rfl rfl 14 (by decide) (hts (.fieldLink RX11 110 "EggThronesModel" "at0" "I") (List.mem_of_getElem? (i := 2) rfl)) (fun _ h9 => h9) rfl (by decide +kernel) rfl rfl (Nat.le_of_ble_eq_true rfl) dX11_table_7 (fun H locs hP hD hS => ?_)
  have hw : Wd D A s (wM q cI cZ (sI σ2 7 0)) H locs := wdiM_7 hP hD hS
  obtain ⟨σ7, e7, hf⟩ := nm_s hf
  replace hf := bt_s hf
  rw [← e7] at hw
  refine lv_iconst (v := zI 0) hx hb dX11_table_10 rfl ?_
  refine lv_istore_n (lv' := [(1, .int (zI 0)), (0, .ref (q 0))]) hx hb dX11_table_11 rfl hl (by decide) rfl (fun ls hl => ?_)
  exact wX11_table_12 C hret FU σ7 0 H locs ls hw (lv_sub hl [1, 0] rfl) hf
set_option maxHeartbeats 4000000 in
set_option maxRecDepth 100000 in
theorem tX11_table {l : Launch} {D : va_G} {A : Nat → Prop} {cI cZ : ClassId} {q : Nat → Nat} {σ : St} {r : Int} {τ : St} (hf : pX11_table σ = some (r, τ)) : Met l yX11_table wsX11_table rmX11_table (va_Pc [.ref (q 0)] (CX D (TY cI cZ) A (wM q cI cZ σ))) (QI D (TY cI cZ) A (wM q cI cZ τ) (zI r)) 0 0 A := by
  refine opn (cc := cX11_table) (maxL := 2) (ret := (some .int)) (by decide) rfl (Nat.le_of_ble_eq_true rfl) (fun p e s m below meth c C ls hw hl => ?_)
  have hl : lv_has ls 2 [(0, .ref (q 0))] := hl
  rw [pX11_table] at hf
  exact wX11_table_0 C (rtI C) σ _ _ ls hw (lv_sub hl [0] rfl) hf
abbrev rmX10_fault : Room := { frames := 0, cells := 0, slots := 0, locals := 0 }
set_option maxHeartbeats 4000000 in
set_option maxRecDepth 100000 in
theorem wX10_fault_0 {p : Program} {l : Launch} {e : Env} {s : State} {m : MethodId} {args : Array Value} {below : List Frame} {meth : Method} {c : Code} {D : va_G} {A : Nat → Prop} {q : Nat → Nat} {cI cZ : ClassId} {Q : State → Prop} {σ : St} {r : Int} (C : Cx p s m args meth c D (TY cI cZ) cX10_fault (some .int) 1 wsX10_fault RX10) (hret : RtI p l e rmX10_fault s m args below meth c D A cX10_fault Q (wE q cI cZ σ) (zI r)) :
    ∀ (H : Heap) (locs : List Loc) (ls : Array Slot), Wd D A s (wE q cI cZ σ) H locs → lv_has ls 1 [(0, .ref (q 0))] → pX10_fault_0 σ = some r → W p l e rmX10_fault s m args below meth c H locs 0 0 Q (F0 m 0 ls []) := by
  obtain ⟨hx, hb, hr, hml, hown, hts, hlk, hK, hN⟩ := id C
  intro H locs ls hw hl hf
  rw [pX10_fault_0] at hf
  refine lv_aload_n hx hb dX10_fault_0 rfl (lv_at hl 0 rfl) ?_
  refine va_get (D := D) (ci := 10) (v := .int (zI (σ.1 0))) (C := RX10) (T := TX10) (N := 13) hx hb hts (fun _ h => List.mem_cons_of_mem _ (List.mem_append_right _ h)) hown hK hw.1 0 rfl rfl 11 (by decide) (hts (.fieldLink RX10 84 "EggThrones" "latestFaultAt" "I") (List.mem_of_getElem? (i := 1) rfl)) (fun _ h9 => h9) rfl dX10_fault_1 ?_
  cases hf
  exact hret H locs ls 4 dX10_fault_4 hw
set_option maxHeartbeats 4000000 in
set_option maxRecDepth 100000 in
theorem tX10_fault {l : Launch} {D : va_G} {A : Nat → Prop} {cI cZ : ClassId} {q : Nat → Nat} {σ : St} {r : Int} (hf : pX10_fault σ = some r) : Met l yX10_fault wsX10_fault rmX10_fault (va_Pc [.ref (q 0)] (CX D (TY cI cZ) A (wE q cI cZ σ))) (QI D (TY cI cZ) A (wE q cI cZ σ) (zI r)) 0 0 A := by
  refine opn (cc := cX10_fault) (maxL := 1) (ret := (some .int)) (by decide) rfl (Nat.le_of_ble_eq_true rfl) (fun p e s m below meth c C ls hw hl => ?_)
  have hl : lv_has ls 1 [(0, .ref (q 0))] := hl
  rw [pX10_fault] at hf
  exact wX10_fault_0 C (rtI C) _ _ ls hw (lv_sub hl [0] rfl) hf
abbrev rmX11_fault : Room := { frames := 0, cells := 0, slots := 0, locals := 0 }
set_option maxHeartbeats 4000000 in
set_option maxRecDepth 100000 in
theorem wX11_fault_0 {p : Program} {l : Launch} {e : Env} {s : State} {m : MethodId} {args : Array Value} {below : List Frame} {meth : Method} {c : Code} {D : va_G} {A : Nat → Prop} {q : Nat → Nat} {cI cZ : ClassId} {Q : State → Prop} {σ : St} {r : Int} (C : Cx p s m args meth c D (TY cI cZ) cX11_fault (some .int) 1 wsX11_fault RX11) (hret : RtI p l e rmX11_fault s m args below meth c D A cX11_fault Q (wM q cI cZ σ) (zI r)) :
    ∀ (H : Heap) (locs : List Loc) (ls : Array Slot), Wd D A s (wM q cI cZ σ) H locs → lv_has ls 1 [(0, .ref (q 0))] → pX11_fault_0 σ = some r → W p l e rmX11_fault s m args below meth c H locs 0 0 Q (F0 m 0 ls []) := by
  obtain ⟨hx, hb, hr, hml, hown, hts, hlk, hK, hN⟩ := id C
  intro H locs ls hw hl hf
  rw [pX11_fault_0] at hf
  refine lv_aload_n hx hb dX11_fault_0 rfl (lv_at hl 0 rfl) ?_
  refine va_get (D := D) (ci := 11) (v := .int (zI (σ.1 6))) (C := RX11) (T := TX11) (N := 40) hx hb hts (fun _ h => List.mem_cons_of_mem _ (List.mem_append_right _ h)) hown hK hw.1 0 rfl rfl 13 (by decide) (hts (.fieldLink RX11 31 "EggThronesModel" "faultPlace" "I") (List.mem_of_getElem? (i := 1) rfl)) (fun _ h9 => h9) rfl dX11_fault_1 ?_
  cases hf
  exact hret H locs ls 4 dX11_fault_4 hw
set_option maxHeartbeats 4000000 in
set_option maxRecDepth 100000 in
theorem tX11_fault {l : Launch} {D : va_G} {A : Nat → Prop} {cI cZ : ClassId} {q : Nat → Nat} {σ : St} {r : Int} (hf : pX11_fault σ = some r) : Met l yX11_fault wsX11_fault rmX11_fault (va_Pc [.ref (q 0)] (CX D (TY cI cZ) A (wM q cI cZ σ))) (QI D (TY cI cZ) A (wM q cI cZ σ) (zI r)) 0 0 A := by
  refine opn (cc := cX11_fault) (maxL := 1) (ret := (some .int)) (by decide) rfl (Nat.le_of_ble_eq_true rfl) (fun p e s m below meth c C ls hw hl => ?_)
  have hl : lv_has ls 1 [(0, .ref (q 0))] := hl
  rw [pX11_fault] at hf
  exact wX11_fault_0 C (rtI C) _ _ ls hw (lv_sub hl [0] rfl) hf
