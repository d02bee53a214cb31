abbrev rmJ6_bitCount_0f7a4 : Room := { frames := 0, cells := 0, slots := 0, locals := 0 }
set_option maxHeartbeats 4000000 in
set_option maxRecDepth 100000 in
theorem wJ6_bitCount_0f7a4_0 {p : Program} {l : Launch} {e : Env} {s : State} {m : MethodId} {args : Array Value} {below : List Frame} {meth : Method} {c : Code} {D : va_G} {A : Nat → Prop} {w : va_W} {cI cZ : ClassId} {Q : State → Prop} {r : Int} (C : Cx p s m args meth c D (TY cI cZ) cJ6_bitCount_0f7a4 (some .int) 1 wsJ6_bitCount_0f7a4 RJ6) (hret : RtI p l e rmJ6_bitCount_0f7a4 s m args below meth c D A cJ6_bitCount_0f7a4 Q (w) (zI r)) :
    ∀ (x0 : Int) (H : Heap) (locs : List Loc) (ls : Array Slot), Wd D A s (w) H locs → lv_has ls 1 [(0, .int (zI x0))] → pJ6_bitCount_0f7a4_0 x0 = some r → W p l e rmJ6_bitCount_0f7a4 s m args below meth c H locs 0 0 Q (F0 m 0 ls []) := by
  obtain ⟨hx, hb, hr, hml, hown, hts, hlk, hK, hN⟩ := id C
  intro x0 H locs ls hw hl hf
  rw [pJ6_bitCount_0f7a4_0] at hf
  refine lv_iload_n hx hb dJ6_bitCount_0f7a4_0 rfl (lv_at hl 0 rfl) ?_
  refine lv_iload_n hx hb dJ6_bitCount_0f7a4_1 rfl (lv_at hl 0 rfl) ?_
  refine lv_iconst (v := zI 1) hx hb dJ6_bitCount_0f7a4_2 rfl ?_
  refine zv_iushr hx hb dJ6_bitCount_0f7a4_3 ?_
  refine zv_ldcw hx hb 1431655765 (by decide +kernel) hown (hts (.constant RJ6 265 (1431655765)) (List.mem_of_getElem? (i := 1) rfl)) dJ6_bitCount_0f7a4_4 ?_
  refine zv_iand hx hb dJ6_bitCount_0f7a4_7 ?_
  refine zv_isub hx hb dJ6_bitCount_0f7a4_8 ?_
  refine lv_istore_n (lv' := [(0, .int (zI (x0 - (zAnd (zUshr x0 1) 1431655765))))]) hx hb dJ6_bitCount_0f7a4_9 rfl hl (by decide) rfl (fun ls hl => ?_)
  refine lv_iload_n hx hb dJ6_bitCount_0f7a4_10 rfl (lv_at hl 0 rfl) ?_
  refine zv_ldcw hx hb 858993459 (by decide +kernel) hown (hts (.constant RJ6 266 (858993459)) (List.mem_of_getElem? (i := 2) rfl)) dJ6_bitCount_0f7a4_11 ?_
  refine zv_iand hx hb dJ6_bitCount_0f7a4_14 ?_
  refine lv_iload_n hx hb dJ6_bitCount_0f7a4_15 rfl (lv_at hl 0 rfl) ?_
  refine lv_iconst (v := zI 2) hx hb dJ6_bitCount_0f7a4_16 rfl ?_
  refine zv_iushr hx hb dJ6_bitCount_0f7a4_17 ?_
  refine zv_ldcw hx hb 858993459 (by decide +kernel) hown (hts (.constant RJ6 266 (858993459)) (List.mem_of_getElem? (i := 2) rfl)) dJ6_bitCount_0f7a4_18 ?_
  refine zv_iand hx hb dJ6_bitCount_0f7a4_21 ?_
  refine zv_iadd hx hb dJ6_bitCount_0f7a4_22 ?_
  refine lv_istore_n (lv' := [(0, .int (zI ((zAnd (x0 - (zAnd (zUshr x0 1) 1431655765)) 858993459) + (zAnd (zUshr (x0 - (zAnd (zUshr x0 1) 1431655765)) 2) 858993459))))]) hx hb dJ6_bitCount_0f7a4_23 rfl hl (by decide) rfl (fun ls hl => ?_)
  refine lv_iload_n hx hb dJ6_bitCount_0f7a4_24 rfl (lv_at hl 0 rfl) ?_
  refine lv_iload_n hx hb dJ6_bitCount_0f7a4_25 rfl (lv_at hl 0 rfl) ?_
  refine lv_iconst (v := zI 4) hx hb dJ6_bitCount_0f7a4_26 rfl ?_
  refine zv_iushr hx hb dJ6_bitCount_0f7a4_27 ?_
  refine zv_iadd hx hb dJ6_bitCount_0f7a4_28 ?_
  refine zv_ldcw hx hb 252645135 (by decide +kernel) hown (hts (.constant RJ6 267 (252645135)) (List.mem_of_getElem? (i := 3) rfl)) dJ6_bitCount_0f7a4_29 ?_
  refine zv_iand hx hb dJ6_bitCount_0f7a4_32 ?_
  refine lv_istore_n (lv' := [(0, .int (zI (zAnd (((zAnd (x0 - (zAnd (zUshr x0 1) 1431655765)) 858993459) + (zAnd (zUshr (x0 - (zAnd (zUshr x0 1) 1431655765)) 2) 858993459)) + (zUshr ((zAnd (x0 - (zAnd (zUshr x0 1) 1431655765)) 858993459) + (zAnd (zUshr (x0 - (zAnd (zUshr x0 1) 1431655765)) 2) 858993459)) 4)) 252645135)))]) hx hb dJ6_bitCount_0f7a4_33 rfl hl (by decide) rfl (fun ls hl => ?_)
  refine lv_iload_n hx hb dJ6_bitCount_0f7a4_34 rfl (lv_at hl 0 rfl) ?_
  refine lv_iload_n hx hb dJ6_bitCount_0f7a4_35 rfl (lv_at hl 0 rfl) ?_
  refine lv_bipush (v := zI 8) hx hb dJ6_bitCount_0f7a4_36 (by decide +kernel) ?_
  refine zv_iushr hx hb dJ6_bitCount_0f7a4_38 ?_
  refine zv_iadd hx hb dJ6_bitCount_0f7a4_39 ?_
  refine lv_istore_n (lv' := [(0, .int (zI ((zAnd (((zAnd (x0 - (zAnd (zUshr x0 1) 1431655765)) 858993459) + (zAnd (zUshr (x0 - (zAnd (zUshr x0 1) 1431655765)) 2) 858993459)) + (zUshr ((zAnd (x0 - (zAnd (zUshr x0 1) 1431655765)) 858993459) + (zAnd (zUshr (x0 - (zAnd (zUshr x0 1) 1431655765)) 2) 858993459)) 4)) 252645135) + (zUshr (zAnd (((zAnd (x0 - (zAnd (zUshr x0 1) 1431655765)) 858993459) + (zAnd (zUshr (x0 - (zAnd (zUshr x0 1) 1431655765)) 2) 858993459)) + (zUshr ((zAnd (x0 - (zAnd (zUshr x0 1) 1431655765)) 858993459) + (zAnd (zUshr (x0 - (zAnd (zUshr x0 1) 1431655765)) 2) 858993459)) 4)) 252645135) 8))))]) hx hb dJ6_bitCount_0f7a4_40 rfl hl (by decide) rfl (fun ls hl => ?_)
  refine lv_iload_n hx hb dJ6_bitCount_0f7a4_41 rfl (lv_at hl 0 rfl) ?_
  refine lv_iload_n hx hb dJ6_bitCount_0f7a4_42 rfl (lv_at hl 0 rfl) ?_
  refine lv_bipush (v := zI 16) hx hb dJ6_bitCount_0f7a4_43 (by decide +kernel) ?_
  refine zv_iushr hx hb dJ6_bitCount_0f7a4_45 ?_
  refine zv_iadd hx hb dJ6_bitCount_0f7a4_46 ?_
  refine lv_istore_n (lv' := [(0, .int (zI (((zAnd (((zAnd (x0 - (zAnd (zUshr x0 1) 1431655765)) 858993459) + (zAnd (zUshr (x0 - (zAnd (zUshr x0 1) 1431655765)) 2) 858993459)) + (zUshr ((zAnd (x0 - (zAnd (zUshr x0 1) 1431655765)) 858993459) + (zAnd (zUshr (x0 - (zAnd (zUshr x0 1) 1431655765)) 2) 858993459)) 4)) 252645135) + (zUshr (zAnd (((zAnd (x0 - (zAnd (zUshr x0 1) 1431655765)) 858993459) + (zAnd (zUshr (x0 - (zAnd (zUshr x0 1) 1431655765)) 2) 858993459)) + (zUshr ((zAnd (x0 - (zAnd (zUshr x0 1) 1431655765)) 858993459) + (zAnd (zUshr (x0 - (zAnd (zUshr x0 1) 1431655765)) 2) 858993459)) 4)) 252645135) 8)) + (zUshr ((zAnd (((zAnd (x0 - (zAnd (zUshr x0 1) 1431655765)) 858993459) + (zAnd (zUshr (x0 - (zAnd (zUshr x0 1) 1431655765)) 2) 858993459)) + (zUshr ((zAnd (x0 - (zAnd (zUshr x0 1) 1431655765)) 858993459) + (zAnd (zUshr (x0 - (zAnd (zUshr x0 1) 1431655765)) 2) 858993459)) 4)) 252645135) + (zUshr (zAnd (((zAnd (x0 - (zAnd (zUshr x0 1) 1431655765)) 858993459) + (zAnd (zUshr (x0 - (zAnd (zUshr x0 1) 1431655765)) 2) 858993459)) + (zUshr ((zAnd (x0 - (zAnd (zUshr x0 1) 1431655765)) 858993459) + (zAnd (zUshr (x0 - (zAnd (zUshr x0 1) 1431655765)) 2) 858993459)) 4)) 252645135) 8)) 16))))]) hx hb dJ6_bitCount_0f7a4_47 rfl hl (by decide) rfl (fun ls hl => ?_)
  refine lv_iload_n hx hb dJ6_bitCount_0f7a4_48 rfl (lv_at hl 0 rfl) ?_
  refine lv_bipush (v := zI 63) hx hb dJ6_bitCount_0f7a4_49 (by decide +kernel) ?_
  refine zv_iand hx hb dJ6_bitCount_0f7a4_51 ?_
  cases hf
  exact hret H locs ls 52 dJ6_bitCount_0f7a4_52 hw
set_option maxHeartbeats 4000000 in
set_option maxRecDepth 100000 in
theorem tJ6_bitCount_0f7a4 {l : Launch} {D : va_G} {A : Nat → Prop} {cI cZ : ClassId} {w : va_W} {x0 : Int} {r : Int} (hf : pJ6_bitCount_0f7a4 x0 = some r) : Met l yJ6_bitCount_0f7a4 wsJ6_bitCount_0f7a4 rmJ6_bitCount_0f7a4 (va_Pc [.int (zI x0)] (CX D (TY cI cZ) A (w))) (QI D (TY cI cZ) A (w) (zI r)) 0 0 A := by
  refine opn (cc := cJ6_bitCount_0f7a4) (maxL := 1) (ret := (some .int)) (by decide) rfl (Nat.le_of_ble_eq_true rfl) (fun p e s m below meth c C ls hw hl => ?_)
  have hl : lv_has ls 1 [(0, .int (zI x0))] := hl
  rw [pJ6_bitCount_0f7a4] at hf
  exact wJ6_bitCount_0f7a4_0 C (rtI C) x0 _ _ ls hw (lv_sub hl [0] rfl) hf
abbrev rmX4_howManyInPan : Room := { frames := 3, cells := 0, slots := 0, locals := 65 }
set_option maxHeartbeats 4000000 in
set_option maxRecDepth 100000 in
theorem wX4_howManyInPan_0 {p : Program} {l : Launch} {e : Env} {s : State} {m : MethodId} {args : Array Value} {below : List Frame} {meth : Method} {c : Code} {D : va_G} {A : Nat → Prop} {q : Nat → Nat} {cI cZ : ClassId} {Q : State → Prop} {σ : St} {r : Int} (C : Cx p s m args meth c D (TY cI cZ) cX4_howManyInPan (some .int) 1 wsX4_howManyInPan RX4) (hret : RtI p l e rmX4_howManyInPan s m args below meth c D A cX4_howManyInPan Q (wE q cI cZ σ) (zI r)) :
    ∀ (H : Heap) (locs : List Loc) (ls : Array Slot), Wd D A s (wE q cI cZ σ) H locs → lv_has ls 1 [(0, .ref (q 15))] → pX4_howManyInPan_0 σ = some r → W p l e rmX4_howManyInPan s m args below meth c H locs 0 0 Q (F0 m 0 ls []) := by
  obtain ⟨hx, hb, hr, hml, hown, hts, hlk, hK, hN⟩ := id C
  intro H locs ls hw hl hf
  rw [pX4_howManyInPan_0] at hf
  refine lv_aload_n hx hb dX4_howManyInPan_0 rfl (lv_at hl 0 rfl) ?_
  refine lv_iconst (v := zI 1) hx hb dX4_howManyInPan_1 rfl ?_
  obtain ⟨r2, h2, hf⟩ := bd_s hf
  replace hf := bt_s hf
  refine gVi (As := [.int (zI 1)]) (rest := []) C hw (tX4_setThatIs h2) (cwV 1 hts gX4_howManyInPan_X4_setThatIs rfl rfl rfl (by decide +kernel) ⟨Nat.le_of_ble_eq_true rfl, Nat.le_of_ble_eq_true rfl⟩) 4 15 rfl rfl rfl hl.1 rfl (Nat.le_of_ble_eq_true rfl) dX4_howManyInPan_2 (fun H locs hw => ?_)
  obtain ⟨r5, h5, hf⟩ := bd_s hf
  replace hf := bt_s hf
  refine gSi (As := [.int (zI r2)]) (rest := []) C hw (tJ6_bitCount_0f7a4 h5) (va_cwS 1 hts gX4_howManyInPan_J6_bitCount_0f7a4 rfl rfl rfl (by decide +kernel) ⟨Nat.le_of_ble_eq_true rfl, Nat.le_of_ble_eq_true rfl⟩) rfl hl.1 rfl (Nat.le_of_ble_eq_true rfl) dX4_howManyInPan_5 (fun H locs hw => ?_)
  cases hf
  exact hret H locs ls 8 dX4_howManyInPan_8 hw
set_option maxHeartbeats 4000000 in
set_option maxRecDepth 100000 in
theorem tX4_howManyInPan {l : Launch} {D : va_G} {A : Nat → Prop} {cI cZ : ClassId} {q : Nat → Nat} {σ : St} {r : Int} (hf : pX4_howManyInPan σ = some r) : Met l yX4_howManyInPan wsX4_howManyInPan rmX4_howManyInPan (va_Pc [.ref (q 15)] (CX D (TY cI cZ) A (wE q cI cZ σ))) (QI D (TY cI cZ) A (wE q cI cZ σ) (zI r)) 0 0 A := by
  refine opn (cc := cX4_howManyInPan) (maxL := 1) (ret := (some .int)) (by decide) rfl (Nat.le_of_ble_eq_true rfl) (fun p e s m below meth c C ls hw hl => ?_)
  have hl : lv_has ls 1 [(0, .ref (q 15))] := hl
  rw [pX4_howManyInPan] at hf
  exact wX4_howManyInPan_0 C (rtI C) _ _ ls hw (lv_sub hl [0] rfl) hf
abbrev rmX4_canGoIn : Room := { frames := 4, cells := 0, slots := 0, locals := 85 }
set_option maxHeartbeats 4000000 in
set_option maxRecDepth 100000 in
theorem wX4_canGoIn_15 {p : Program} {l : Launch} {e : Env} {s : State} {m : MethodId} {args : Array Value} {below : List Frame} {meth : Method} {c : Code} {D : va_G} {A : Nat → Prop} {q : Nat → Nat} {cI cZ : ClassId} {Q : State → Prop} {σ : St} {r : Int} (C : Cx p s m args meth c D (TY cI cZ) cX4_canGoIn (some .boolean) 3 wsX4_canGoIn RX4) (hret : RtZ p l e rmX4_canGoIn s m args below meth c D A cX4_canGoIn Q (wE q cI cZ σ) (zI r)) :
    ∀ (H : Heap) (locs : List Loc) (ls : Array Slot), Wd D A s (wE q cI cZ σ) H locs → lv_has ls 3 [(0, .ref (q 15))] → pX4_canGoIn_15 σ = some r → W p l e rmX4_canGoIn s m args below meth c H locs 0 0 Q (F0 m 15 ls []) := by
  obtain ⟨hx, hb, hr, hml, hown, hts, hlk, hK, hN⟩ := id C
  intro H locs ls hw hl hf
  rw [pX4_canGoIn_15] at hf
  refine lv_aload_n hx hb dX4_canGoIn_15 rfl (lv_at hl 0 rfl) ?_
  obtain ⟨r16, h16, hf⟩ := bd_s hf
  replace hf := bt_s hf
  refine gVi (As := []) (rest := []) C hw (tX4_howManyInPan h16) (cwV 0 hts gX4_canGoIn_X4_howManyInPan rfl rfl rfl (by decide +kernel) ⟨Nat.le_of_ble_eq_true rfl, Nat.le_of_ble_eq_true rfl⟩) 4 15 rfl rfl rfl hl.1 rfl (Nat.le_of_ble_eq_true rfl) dX4_canGoIn_16 (fun H locs hw => ?_)
  refine lv_aload_n hx hb dX4_canGoIn_19 rfl (lv_at hl 0 rfl) ?_
  refine va_get (D := D) (ci := 4) (v := .ref (q 1)) (C := RX4) (T := TX4) (N := 9) hx hb hts (fun _ h => List.mem_cons_of_mem _ (List.mem_append_left _ (List.mem_append_right _ h))) hown hK hw.1 15 rfl rfl 0 (by decide) (hts (.fieldLink RX4 9 "EggThrones$Morning" "table" "LEggThrones$Table;") (List.mem_of_getElem? (i := 1) rfl)) (fun _ h9 => h9) rfl dX4_canGoIn_20 ?_
  refine va_getN (D := D) (ci := 8) (v := .int (zI (σ.1 2))) (C := RX8) (T := TX8) (N := 10) hx hb hts (fun _ h => List.mem_cons_of_mem _ (List.mem_append_right _ h)) hown hK hw.1 1 rfl rfl 0 (by decide) (va_Nw.use rfl (hN (.fieldLinkNest "EggThrones$Morning" 82 "EggThrones$Table" "places" "I" "EggThrones") (by decide +kernel))) (fun _ h9 => h9) rfl dX4_canGoIn_23 ?_
  obtain ⟨hg26, hf⟩ := gd_s hf
  refine zv_icmp_ge (tgt := 33) hx hb hg26 dX4_canGoIn_26 (by decide) (fun (c26 : (σ.1 2) ≤ r16) => ?_) (fun (c26 : ¬ ((σ.1 2) ≤ r16)) => ?_)
  · rw [if_pos c26] at hf
    refine lv_iconst (v := zI 0) hx hb dX4_canGoIn_33 rfl ?_
    cases hf
    exact hret H locs ls 34 dX4_canGoIn_34 (by decide +kernel) hw
  · rw [if_neg c26] at hf
    refine lv_iconst (v := zI 1) hx hb dX4_canGoIn_29 rfl ?_
    refine lv_goto (tgt := 34) hx hb dX4_canGoIn_30 (by decide) ?_
    cases hf
    exact hret H locs ls 34 dX4_canGoIn_34 (by decide +kernel) hw
set_option maxHeartbeats 4000000 in
set_option maxRecDepth 100000 in
theorem wX4_canGoIn_0 {p : Program} {l : Launch} {e : Env} {s : State} {m : MethodId} {args : Array Value} {below : List Frame} {meth : Method} {c : Code} {D : va_G} {A : Nat → Prop} {q : Nat → Nat} {cI cZ : ClassId} {Q : State → Prop} {σ : St} {r : Int} (C : Cx p s m args meth c D (TY cI cZ) cX4_canGoIn (some .boolean) 3 wsX4_canGoIn RX4) (hret : RtZ p l e rmX4_canGoIn s m args below meth c D A cX4_canGoIn Q (wE q cI cZ σ) (zI r)) :
    ∀ (x1 : Int) (H : Heap) (locs : List Loc) (ls : Array Slot), Wd D A s (wE q cI cZ σ) H locs → lv_has ls 3 [(0, .ref (q 15)), (1, .int (zI x1))] → pX4_canGoIn_0 σ x1 = some r → W p l e rmX4_canGoIn s m args below meth c H locs 0 0 Q (F0 m 0 ls []) := by
  obtain ⟨hx, hb, hr, hml, hown, hts, hlk, hK, hN⟩ := id C
  intro x1 H locs ls hw hl hf
  rw [pX4_canGoIn_0] at hf
  refine lv_aload_n hx hb dX4_canGoIn_0 rfl (lv_at hl 0 rfl) ?_
  refine lv_iload_n hx hb dX4_canGoIn_1 rfl (lv_at hl 1 rfl) ?_
  obtain ⟨r2, h2, hf⟩ := bd_s hf
  replace hf := bt_s hf
  refine gVi (As := [.int (zI x1)]) (rest := []) C hw (tX4_stateOf h2) (cwV 1 hts gX4_canGoIn_X4_stateOf rfl rfl rfl (by decide +kernel) ⟨Nat.le_of_ble_eq_true rfl, Nat.le_of_ble_eq_true rfl⟩) 4 15 rfl rfl rfl hl.1 rfl (Nat.le_of_ble_eq_true rfl) dX4_canGoIn_2 (fun H locs hw => ?_)
  refine lv_istore_n (lv' := [(2, .int (zI r2)), (0, .ref (q 15)), (1, .int (zI x1))]) hx hb dX4_canGoIn_5 rfl hl (by decide) rfl (fun ls hl => ?_)
  refine lv_iload_n hx hb dX4_canGoIn_6 rfl (lv_at hl 0 rfl) ?_
  obtain ⟨hg7, hf⟩ := gd_s hf
  refine zv_if_eq (tgt := 15) hx hb hg7 dX4_canGoIn_7 (by decide) (fun (c7 : r2 = 0) => ?_) (fun (c7 : ¬ (r2 = 0)) => ?_)
  · rw [if_pos c7] at hf
    exact wX4_canGoIn_15 C hret H locs ls hw (lv_sub hl [1] rfl) hf
  · rw [if_neg c7] at hf
    refine lv_iload_n hx hb dX4_canGoIn_10 rfl (lv_at hl 0 rfl) ?_
    refine lv_iconst (v := zI 2) hx hb dX4_canGoIn_11 rfl ?_
    obtain ⟨hg12, hf⟩ := gd_s hf
    refine zv_icmp_ne (tgt := 33) hx hb ⟨hg12, by decide⟩ dX4_canGoIn_12 (by decide) (fun (c12 : ¬ (r2 = 2)) => ?_) (fun (c12 : r2 = 2) => ?_)
    · rw [if_neg c12] at hf
      refine lv_iconst (v := zI 0) hx hb dX4_canGoIn_33 rfl ?_
      cases hf
      exact hret H locs ls 34 dX4_canGoIn_34 (by decide +kernel) hw
    · rw [if_pos c12] at hf
      exact wX4_canGoIn_15 C hret H locs ls hw (lv_sub hl [1] rfl) hf
set_option maxHeartbeats 4000000 in
set_option maxRecDepth 100000 in
theorem tX4_canGoIn {l : Launch} {D : va_G} {A : Nat → Prop} {cI cZ : ClassId} {q : Nat → Nat} {σ : St} {x1 : Int} {r : Int} (hf : pX4_canGoIn σ x1 = some r) : Met l yX4_canGoIn wsX4_canGoIn rmX4_canGoIn (va_Pc [.ref (q 15), .int (zI x1)] (CX D (TY cI cZ) A (wE q cI cZ σ))) (QI D (TY cI cZ) A (wE q cI cZ σ) (zI r)) 0 0 A := by
  refine opn (cc := cX4_canGoIn) (maxL := 3) (ret := (some .boolean)) (by decide) rfl (Nat.le_of_ble_eq_true rfl) (fun p e s m below meth c C ls hw hl => ?_)
  have hl : lv_has ls 3 [(0, .ref (q 15)), (1, .int (zI x1))] := hl
  rw [pX4_canGoIn] at hf
  exact wX4_canGoIn_0 C (rtZ C) x1 _ _ ls hw (lv_sub hl [0, 1] rfl) hf
abbrev rmX4_goIn : Room := { frames := 2, cells := 0, slots := 0, locals := 43 }
set_option maxHeartbeats 4000000 in
set_option maxRecDepth 100000 in
theorem wX4_goIn_0 {p : Program} {l : Launch} {e : Env} {s : State} {m : MethodId} {args : Array Value} {below : List Frame} {meth : Method} {c : Code} {D : va_G} {A : Nat → Prop} {q : Nat → Nat} {cI cZ : ClassId} {Q : State → Prop} {τ : St} (C : Cx p s m args meth c D (TY cI cZ) cX4_goIn none 2 wsX4_goIn RX4) (hret : RtV p l e rmX4_goIn s m args below meth c D A cX4_goIn Q (wE q cI cZ τ)) :
    ∀ (σ : St) (x1 : Int) (H : Heap) (locs : List Loc) (ls : Array Slot), Wd D A s (wE q cI cZ σ) H locs → lv_has ls 2 [(0, .ref (q 15)), (1, .int (zI x1))] → pX4_goIn_0 σ x1 = some τ → W p l e rmX4_goIn s m args below meth c H locs 0 0 Q (F0 m 0 ls []) := by
  obtain ⟨hx, hb, hr, hml, hown, hts, hlk, hK, hN⟩ := id C
  intro σ x1 H locs ls hw hl hf
  rw [pX4_goIn_0] at hf
  refine lv_aload_n hx hb dX4_goIn_0 rfl (lv_at hl 0 rfl) ?_
  refine lv_iload_n hx hb dX4_goIn_1 rfl (lv_at hl 1 rfl) ?_
  refine lv_iconst (v := zI 1) hx hb dX4_goIn_2 rfl ?_
  obtain ⟨σ3, h3, hf⟩ := bd_s hf
  replace hf := bt_s hf
  refine gVv (As := [.int (zI x1), .int (zI 1)]) (rest := []) C hw (tX4_setState h3) (cwV 2 hts gX4_goIn_X4_setState rfl rfl rfl (by decide +kernel) ⟨Nat.le_of_ble_eq_true rfl, Nat.le_of_ble_eq_true rfl⟩) 4 15 rfl rfl rfl hl.1 rfl (Nat.le_of_ble_eq_true rfl) dX4_goIn_3 (fun H locs hw => ?_)
  cases hf
  exact hret H locs ls 6 dX4_goIn_6 hw
set_option maxHeartbeats 4000000 in
set_option maxRecDepth 100000 in
theorem tX4_goIn {l : Launch} {D : va_G} {A : Nat → Prop} {cI cZ : ClassId} {q : Nat → Nat} {σ : St} {x1 : Int} {τ : St} (hf : pX4_goIn σ x1 = some τ) : Met l yX4_goIn wsX4_goIn rmX4_goIn (va_Pc [.ref (q 15), .int (zI x1)] (CX D (TY cI cZ) A (wE q cI cZ σ))) (QV D (TY cI cZ) A (wE q cI cZ τ)) 0 0 A := by
  refine opn (cc := cX4_goIn) (maxL := 2) (ret := none) (by decide) rfl (Nat.le_of_ble_eq_true rfl) (fun p e s m below meth c C ls hw hl => ?_)
  have hl : lv_has ls 2 [(0, .ref (q 15)), (1, .int (zI x1))] := hl
  rw [pX4_goIn] at hf
  exact wX4_goIn_0 C (rtV C) σ x1 _ _ ls hw (lv_sub hl [0, 1] rfl) hf
abbrev rmX10_put : Room := { frames := 5, cells := 0, slots := 0, locals := 107 }
set_option maxHeartbeats 4000000 in
set_option maxRecDepth 100000 in
theorem wX10_put_0 {p : Program} {l : Launch} {e : Env} {s : State} {m : MethodId} {args : Array Value} {below : List Frame} {meth : Method} {c : Code} {D : va_G} {A : Nat → Prop} {q : Nat → Nat} {cI cZ : ClassId} {Q : State → Prop} {r : Int} {τ : St} (C : Cx p s m args meth c D (TY cI cZ) cX10_put (some .int) 2 wsX10_put RX10) (hret : RtI p l e rmX10_put s m args below meth c D A cX10_put Q (wE q cI cZ τ) (zI r)) :
    ∀ (σ : St) (x1 : Int) (H : Heap) (locs : List Loc) (ls : Array Slot), Wd D A s (wE q cI cZ σ) H locs → lv_has ls 2 [(0, .ref (q 0)), (1, .int (zI x1))] → pX10_put_0 σ x1 = some (r, τ) → W p l e rmX10_put s m args below meth c H locs 0 0 Q (F0 m 0 ls []) := by
  obtain ⟨hx, hb, hr, hml, hown, hts, hlk, hK, hN⟩ := id C
  intro σ x1 H locs ls hw hl hf
  rw [pX10_put_0] at hf
  refine lv_aload_n hx hb dX10_put_0 rfl (lv_at hl 0 rfl) ?_
  refine va_get (D := D) (ci := 10) (v := .ref (q 1)) (C := RX10) (T := TX10) (N := 13) hx hb hts (fun _ h => List.mem_cons_of_mem _ (List.mem_append_left _ (List.mem_append_left _ (List.mem_append_left _ (List.mem_append_right _ h))))) hown hK hw.1 0 rfl rfl 1 (by decide) (hts (.fieldLink RX10 19 "EggThrones" "laid" "LEggThrones$Table;") (List.mem_of_getElem? (i := 1) rfl)) (fun _ h9 => h9) rfl dX10_put_1 ?_
  refine lv_iload_n hx hb dX10_put_4 rfl (lv_at hl 1 rfl) ?_
  obtain ⟨r5, h5, hf⟩ := bd_s hf
  replace hf := bt_s hf
  refine gVi (As := [.int (zI x1)]) (rest := []) C hw (tX8_hasEgg_c1 h5) (cwV 1 hts gX10_put_X8_hasEgg rfl rfl rfl (by decide +kernel) ⟨Nat.le_of_ble_eq_true rfl, Nat.le_of_ble_eq_true rfl⟩) 8 1 rfl rfl rfl hl.1 rfl (Nat.le_of_ble_eq_true rfl) dX10_put_5 (fun H locs hw => ?_)
  obtain ⟨hg8, hf⟩ := gd_s hf
  refine zv_if_ne (tgt := 14) hx hb hg8 dX10_put_8 (by decide) (fun (c8 : ¬ (r5 = 0)) => ?_) (fun (c8 : r5 = 0) => ?_)
  · rw [if_neg c8] at hf
    refine lv_aload_n hx hb dX10_put_14 rfl (lv_at hl 0 rfl) ?_
    refine va_get (D := D) (ci := 10) (v := .ref (q 15)) (C := RX10) (T := TX10) (N := 13) hx hb hts (fun _ h => List.mem_cons_of_mem _ (List.mem_append_left _ (List.mem_append_left _ (List.mem_append_left _ (List.mem_append_right _ h))))) hown hK hw.1 0 rfl rfl 3 (by decide) (hts (.fieldLink RX10 31 "EggThrones" "now" "LEggThrones$Morning;") (List.mem_of_getElem? (i := 3) rfl)) (fun _ h9 => h9) rfl dX10_put_15 ?_
    refine lv_iload_n hx hb dX10_put_18 rfl (lv_at hl 1 rfl) ?_
    obtain ⟨r19, h19, hf⟩ := bd_s hf
    replace hf := bt_s hf
    refine gVi (As := [.int (zI x1)]) (rest := []) C hw (tX4_canGoIn h19) (cwV 1 hts gX10_put_X4_canGoIn rfl rfl rfl (by decide +kernel) ⟨Nat.le_of_ble_eq_true rfl, Nat.le_of_ble_eq_true rfl⟩) 4 15 rfl rfl rfl hl.1 rfl (Nat.le_of_ble_eq_true rfl) dX10_put_19 (fun H locs hw => ?_)
    obtain ⟨hg22, hf⟩ := gd_s hf
    refine zv_if_ne (tgt := 28) hx hb hg22 dX10_put_22 (by decide) (fun (c22 : ¬ (r19 = 0)) => ?_) (fun (c22 : r19 = 0) => ?_)
    · rw [if_neg c22] at hf
      refine lv_aload_n hx hb dX10_put_28 rfl (lv_at hl 0 rfl) ?_
      refine va_get (D := D) (ci := 10) (v := .ref (q 18)) (C := RX10) (T := TX10) (N := 13) hx hb hts (fun _ h => List.mem_cons_of_mem _ (List.mem_append_left _ (List.mem_append_left _ (List.mem_append_left _ (List.mem_append_right _ h))))) hown hK hw.1 0 rfl rfl 4 (by decide) (hts (.fieldLink RX10 38 "EggThrones" "past" "LEggThrones$Past;") (List.mem_of_getElem? (i := 5) rfl)) (fun _ h9 => h9) rfl dX10_put_29 ?_
      refine lv_aload_n hx hb dX10_put_32 rfl (lv_at hl 0 rfl) ?_
      refine va_get (D := D) (ci := 10) (v := .ref (q 15)) (C := RX10) (T := TX10) (N := 13) hx hb hts (fun _ h => List.mem_cons_of_mem _ (List.mem_append_left _ (List.mem_append_left _ (List.mem_append_left _ (List.mem_append_right _ h))))) hown hK hw.1 0 rfl rfl 3 (by decide) (hts (.fieldLink RX10 31 "EggThrones" "now" "LEggThrones$Morning;") (List.mem_of_getElem? (i := 3) rfl)) (fun _ h9 => h9) rfl dX10_put_33 ?_
      obtain ⟨σ36, h36, hf⟩ := bd_s hf
      replace hf := bt_s hf
      refine gVv (As := [.ref (q 15)]) (rest := []) C hw (tX5_remember h36) (cwV 1 hts gX10_put_X5_remember rfl rfl rfl (by decide +kernel) ⟨Nat.le_of_ble_eq_true rfl, Nat.le_of_ble_eq_true rfl⟩) 5 18 rfl rfl rfl hl.1 rfl (Nat.le_of_ble_eq_true rfl) dX10_put_36 (fun H locs hw => ?_)
      refine lv_aload_n hx hb dX10_put_39 rfl (lv_at hl 0 rfl) ?_
      refine va_get (D := D) (ci := 10) (v := .ref (q 15)) (C := RX10) (T := TX10) (N := 13) hx hb hts (fun _ h => List.mem_cons_of_mem _ (List.mem_append_left _ (List.mem_append_left _ (List.mem_append_left _ (List.mem_append_right _ h))))) hown hK hw.1 0 rfl rfl 3 (by decide) (hts (.fieldLink RX10 31 "EggThrones" "now" "LEggThrones$Morning;") (List.mem_of_getElem? (i := 3) rfl)) (fun _ h9 => h9) rfl dX10_put_40 ?_
      refine lv_iload_n hx hb dX10_put_43 rfl (lv_at hl 1 rfl) ?_
      obtain ⟨σ44, h44, hf⟩ := bd_s hf
      replace hf := bt_s hf
      refine gVv (As := [.int (zI x1)]) (rest := []) C hw (tX4_goIn h44) (cwV 1 hts gX10_put_X4_goIn rfl rfl rfl (by decide +kernel) ⟨Nat.le_of_ble_eq_true rfl, Nat.le_of_ble_eq_true rfl⟩) 4 15 rfl rfl rfl hl.1 rfl (Nat.le_of_ble_eq_true rfl) dX10_put_44 (fun H locs hw => ?_)
      refine lv_aload_n hx hb dX10_put_47 rfl (lv_at hl 0 rfl) ?_
      refine va_get (D := D) (ci := 10) (v := .ref (q 15)) (C := RX10) (T := TX10) (N := 13) hx hb hts (fun _ h => List.mem_cons_of_mem _ (List.mem_append_left _ (List.mem_append_left _ (List.mem_append_left _ (List.mem_append_right _ h))))) hown hK hw.1 0 rfl rfl 3 (by decide) (hts (.fieldLink RX10 31 "EggThrones" "now" "LEggThrones$Morning;") (List.mem_of_getElem? (i := 3) rfl)) (fun _ h9 => h9) rfl dX10_put_48 ?_
      obtain ⟨r51, h51, hf⟩ := bd_s hf
      replace hf := bt_s hf
      refine gVi (As := []) (rest := []) C hw (tX4_howManyInPan h51) (cwV 0 hts gX10_put_X4_howManyInPan rfl rfl rfl (by decide +kernel) ⟨Nat.le_of_ble_eq_true rfl, Nat.le_of_ble_eq_true rfl⟩) 4 15 rfl rfl rfl hl.1 rfl (Nat.le_of_ble_eq_true rfl) dX10_put_51 (fun H locs hw => ?_)
      cases hf
      exact hret H locs ls 54 dX10_put_54 hw
    · rw [if_pos c22] at hf
      refine zv_ldc hx hb (-1000000003) (by decide +kernel) hown (hts (.constant RX10 219 (-1000000003)) (List.mem_of_getElem? (i := 4) rfl)) dX10_put_25 ?_
      cases hf
      exact hret H locs ls 27 dX10_put_27 hw
  · rw [if_pos c8] at hf
    refine zv_ldc hx hb (-1000000001) (by decide +kernel) hown (hts (.constant RX10 175 (-1000000001)) (List.mem_of_getElem? (i := 2) rfl)) dX10_put_11 ?_
    cases hf
    exact hret H locs ls 13 dX10_put_13 hw
set_option maxHeartbeats 4000000 in
set_option maxRecDepth 100000 in
theorem tX10_put {l : Launch} {D : va_G} {A : Nat → Prop} {cI cZ : ClassId} {q : Nat → Nat} {σ : St} {x1 : Int} {r : Int} {τ : St} (hf : pX10_put σ x1 = some (r, τ)) : Met l yX10_put wsX10_put rmX10_put (va_Pc [.ref (q 0), .int (zI x1)] (CX D (TY cI cZ) A (wE q cI cZ σ))) (QI D (TY cI cZ) A (wE q cI cZ τ) (zI r)) 0 0 A := by
  refine opn (cc := cX10_put) (maxL := 2) (ret := (some .int)) (by decide) rfl (Nat.le_of_ble_eq_true rfl) (fun p e s m below meth c C ls hw hl => ?_)
  have hl : lv_has ls 2 [(0, .ref (q 0)), (1, .int (zI x1))] := hl
  rw [pX10_put] at hf
  exact wX10_put_0 C (rtI C) σ x1 _ _ ls hw (lv_sub hl [0, 1] rfl) hf
abbrev rmX11_inPan : Room := { frames := 0, cells := 0, slots := 0, locals := 0 }
set_option maxHeartbeats 4000000 in
set_option maxRecDepth 100000 in
theorem wX11_inPan_28 {p : Program} {l : Launch} {e : Env} {s : State} {m : MethodId} {args : Array Value} {below : List Frame} {meth : Method} {c : Code} {D : va_G} {A : Nat → Prop} {q : Nat → Nat} {cI cZ : ClassId} {Q : State → Prop} {σ : St} {r : Int} (C : Cx p s m args meth c D (TY cI cZ) cX11_inPan (some .int) 3 wsX11_inPan RX11) (hret : RtI p l e rmX11_inPan s m args below meth c D A cX11_inPan Q (wM q cI cZ σ) (zI r)) (k4 : Int → Int → Option (Int)) (hk4 : ∀ (x1 : Int) (x2 : Int) (H : Heap) (locs : List Loc) (ls : Array Slot), Wd D A s (wM q cI cZ σ) H locs → lv_has ls 3 [(0, .ref (q 0)), (1, .int (zI x1)), (2, .int (zI x2))] → k4 x1 x2 = some r → W p l e rmX11_inPan s m args below meth c H locs 0 0 Q (F0 m 4 ls [])) :
    ∀ (x2 : Int) (t0 : Int) (t1 : Int) (H : Heap) (locs : List Loc) (ls : Array Slot), Wd D A s (wM q cI cZ σ) H locs → lv_has ls 3 [(0, .ref (q 0)), (2, .int (zI x2))] → pX11_inPan_28 k4 σ x2 t0 t1 = some r → W p l e rmX11_inPan s m args below meth c H locs 0 0 Q (F0 m 28 ls [.int (zI t1), .int (zI t0)]) := by
  obtain ⟨hx, hb, hr, hml, hown, hts, hlk, hK, hN⟩ := id C
  intro x2 t0 t1 H locs ls hw hl hf
  rw [pX11_inPan_28] at hf
  refine zv_iadd hx hb dX11_inPan_28 ?_
  refine lv_istore_n (lv' := [(1, .int (zI (t0 + t1))), (0, .ref (q 0)), (2, .int (zI x2))]) hx hb dX11_inPan_29 rfl hl (by decide) rfl (fun ls hl => ?_)
  refine lv_iinc (v := zI (x2 + 1)) (lv' := [(2, .int (zI (x2 + 1))), (1, .int (zI (t0 + t1))), (0, .ref (q 0))]) hx hb dX11_inPan_30 hl (k := 2) rfl (zI_add _ _) (by decide) rfl (fun ls hl => ?_)
  refine lv_goto (tgt := 4) hx hb dX11_inPan_33 (by decide) ?_
  exact hk4 (t0 + t1) (x2 + 1) H locs ls hw (lv_sub hl [2, 1, 0] rfl) hf
set_option maxHeartbeats 4000000 in
set_option maxRecDepth 100000 in
theorem wX11_inPan_4 {p : Program} {l : Launch} {e : Env} {s : State} {m : MethodId} {args : Array Value} {below : List Frame} {meth : Method} {c : Code} {D : va_G} {A : Nat → Prop} {q : Nat → Nat} {cI cZ : ClassId} {Q : State → Prop} {σ : St} {r : Int} (C : Cx p s m args meth c D (TY cI cZ) cX11_inPan (some .int) 3 wsX11_inPan RX11) (hret : RtI p l e rmX11_inPan s m args below meth c D A cX11_inPan Q (wM q cI cZ σ) (zI r)) :
    ∀ (n : Nat) (x1 : Int) (x2 : Int) (H : Heap) (locs : List Loc) (ls : Array Slot), Wd D A s (wM q cI cZ σ) H locs → lv_has ls 3 [(0, .ref (q 0)), (1, .int (zI x1)), (2, .int (zI x2))] → pX11_inPan_4 σ n x1 x2 = some r → W p l e rmX11_inPan s m args below meth c H locs 0 0 Q (F0 m 4 ls []) := by
  obtain ⟨hx, hb, hr, hml, hown, hts, hlk, hK, hN⟩ := id C
  intro n
  induction n with
  | zero =>
    intro x1 x2 H locs ls hw hl hf
    exact absurd (show (none : Option (Int)) = some r from hf) (by simp)
  | succ n ih =>
    intro x1 x2 H locs ls hw hl hf
    rw [pX11_inPan_4] at hf
    refine lv_iload_n hx hb dX11_inPan_4 rfl (lv_at hl 2 rfl) ?_
    refine lv_aload_n hx hb dX11_inPan_5 rfl (lv_at hl 0 rfl) ?_
    refine va_get (D := D) (ci := 11) (v := .int (zI (σ.1 2))) (C := RX11) (T := TX11) (N := 40) hx hb hts (fun _ h => List.mem_cons_of_mem _ (List.mem_append_right _ h)) hown hK hw.1 0 rfl rfl 2 (by decide) (hts (.fieldLink RX11 93 "EggThronesModel" "eggs" "I") (List.mem_of_getElem? (i := 1) rfl)) (fun _ h9 => h9) rfl dX11_inPan_6 ?_
    obtain ⟨hg9, hf⟩ := gd_s hf
    refine zv_icmp_ge (tgt := 36) hx hb hg9 dX11_inPan_9 (by decide) (fun (c9 : (σ.1 2) ≤ x2) => ?_) (fun (c9 : ¬ ((σ.1 2) ≤ x2)) => ?_)
    · rw [if_pos c9] at hf
      refine lv_iload_n hx hb dX11_inPan_36 rfl (lv_at hl 1 rfl) ?_
      cases hf
      exact hret H locs ls 37 dX11_inPan_37 hw
    · rw [if_neg c9] at hf
      refine lv_iload_n hx hb dX11_inPan_12 rfl (lv_at hl 1 rfl) ?_
      refine lv_aload_n hx hb dX11_inPan_13 rfl (lv_at hl 0 rfl) ?_
      refine va_get (D := D) (ci := 11) (v := .ref (q 6)) (C := RX11) (T := TX11) (N := 40) hx hb hts (fun _ h => List.mem_cons_of_mem _ (List.mem_append_right _ h)) hown hK hw.1 0 rfl rfl 9 (by decide) (hts (.fieldLink RX11 25 "EggThronesModel" "now" "[I") (List.mem_of_getElem? (i := 2) rfl)) (fun _ h9 => h9) rfl dX11_inPan_14 ?_
      refine lv_iload_n hx hb dX11_inPan_17 rfl (lv_at hl 2 rfl) ?_
      obtain ⟨hi18, hf⟩ := gd_s hf
      refine zv_iald (D := D) hx hb hK hw.1 6 0 rfl rfl hi18 (by decide) dX11_inPan_18 ?_
      refine lv_iconst (v := zI 1) hx hb dX11_inPan_19 rfl ?_
      obtain ⟨hg20, hf⟩ := gd_s hf
      refine zv_icmp_ne (tgt := 27) hx hb ⟨hg20, by decide⟩ dX11_inPan_20 (by decide) (fun (c20 : ¬ ((σ.2 5 (Int.toNat x2)) = 1)) => ?_) (fun (c20 : (σ.2 5 (Int.toNat x2)) = 1) => ?_)
      · rw [if_neg c20] at hf
        refine lv_iconst (v := zI 0) hx hb dX11_inPan_27 rfl ?_
        exact wX11_inPan_28 C hret _ ih x2 x1 0 H locs ls hw (lv_sub hl [0, 2] rfl) hf
      · rw [if_pos c20] at hf
        refine lv_iconst (v := zI 1) hx hb dX11_inPan_23 rfl ?_
        refine lv_goto (tgt := 28) hx hb dX11_inPan_24 (by decide) ?_
        exact wX11_inPan_28 C hret _ ih x2 x1 1 H locs ls hw (lv_sub hl [0, 2] rfl) hf
set_option maxHeartbeats 4000000 in
set_option maxRecDepth 100000 in
theorem wX11_inPan_0 {p : Program} {l : Launch} {e : Env} {s : State} {m : MethodId} {args : Array Value} {below : List Frame} {meth : Method} {c : Code} {D : va_G} {A : Nat → Prop} {q : Nat → Nat} {cI cZ : ClassId} {Q : State → Prop} {σ : St} {r : Int} (C : Cx p s m args meth c D (TY cI cZ) cX11_inPan (some .int) 3 wsX11_inPan RX11) (hret : RtI p l e rmX11_inPan s m args below meth c D A cX11_inPan Q (wM q cI cZ σ) (zI r)) :
    ∀ (H : Heap) (locs : List Loc) (ls : Array Slot), Wd D A s (wM q cI cZ σ) H locs → lv_has ls 3 [(0, .ref (q 0))] → pX11_inPan_0 σ = some r → W p l e rmX11_inPan s m args below meth c H locs 0 0 Q (F0 m 0 ls []) := by
  obtain ⟨hx, hb, hr, hml, hown, hts, hlk, hK, hN⟩ := id C
  intro H locs ls hw hl hf
  rw [pX11_inPan_0] at hf
  refine lv_iconst (v := zI 0) hx hb dX11_inPan_0 rfl ?_
  refine lv_istore_n (lv' := [(1, .int (zI 0)), (0, .ref (q 0))]) hx hb dX11_inPan_1 rfl hl (by decide) rfl (fun ls hl => ?_)
  refine lv_iconst (v := zI 0) hx hb dX11_inPan_2 rfl ?_
  refine lv_istore_n (lv' := [(2, .int (zI 0)), (1, .int (zI 0)), (0, .ref (q 0))]) hx hb dX11_inPan_3 rfl hl (by decide) rfl (fun ls hl => ?_)
  exact wX11_inPan_4 C hret FU 0 0 H locs ls hw (lv_sub hl [2, 1, 0] rfl) hf
set_option maxHeartbeats 4000000 in
set_option maxRecDepth 100000 in
theorem tX11_inPan {l : Launch} {D : va_G} {A : Nat → Prop} {cI cZ : ClassId} {q : Nat → Nat} {σ : St} {r : Int} (hf : pX11_inPan σ = some r) : Met l yX11_inPan wsX11_inPan rmX11_inPan (va_Pc [.ref (q 0)] (CX D (TY cI cZ) A (wM q cI cZ σ))) (QI D (TY cI cZ) A (wM q cI cZ σ) (zI r)) 0 0 A := by
  refine opn (cc := cX11_inPan) (maxL := 3) (ret := (some .int)) (by decide) rfl (Nat.le_of_ble_eq_true rfl) (fun p e s m below meth c C ls hw hl => ?_)
  have hl : lv_has ls 3 [(0, .ref (q 0))] := hl
  rw [pX11_inPan] at hf
  exact wX11_inPan_0 C (rtI C) _ _ ls hw (lv_sub hl [0] rfl) hf
abbrev rmX11_canPut : Room := { frames := 1, cells := 0, slots := 0, locals := 22 }
set_option maxHeartbeats 4000000 in
set_option maxRecDepth 100000 in
theorem wX11_canPut_19 {p : Program} {l : Launch} {e : Env} {s : State} {m : MethodId} {args : Array Value} {below : List Frame} {meth : Method} {c : Code} {D : va_G} {A : Nat → Prop} {q : Nat → Nat} {cI cZ : ClassId} {Q : State → Prop} {σ : St} {r : Int} (C : Cx p s m args meth c D (TY cI cZ) cX11_canPut (some .boolean) 2 wsX11_canPut RX11) (hret : RtZ p l e rmX11_canPut s m args below meth c D A cX11_canPut Q (wM q cI cZ σ) (zI r)) :
    ∀ (H : Heap) (locs : List Loc) (ls : Array Slot), Wd D A s (wM q cI cZ σ) H locs → lv_has ls 2 [(0, .ref (q 0))] → pX11_canPut_19 σ = some r → W p l e rmX11_canPut s m args below meth c H locs 0 0 Q (F0 m 19 ls []) := by
  obtain ⟨hx, hb, hr, hml, hown, hts, hlk, hK, hN⟩ := id C
  intro H locs ls hw hl hf
  rw [pX11_canPut_19] at hf
  refine lv_aload_n hx hb dX11_canPut_19 rfl (lv_at hl 0 rfl) ?_
  obtain ⟨r20, h20, hf⟩ := bd_s hf
  replace hf := bt_s hf
  refine gVi (As := []) (rest := []) C hw (tX11_inPan h20) (cwV 0 hts gX11_canPut_X11_inPan rfl rfl rfl (by decide +kernel) ⟨Nat.le_of_ble_eq_true rfl, Nat.le_of_ble_eq_true rfl⟩) 11 0 rfl rfl rfl hl.1 rfl (Nat.le_of_ble_eq_true rfl) dX11_canPut_20 (fun H locs hw => ?_)
  refine lv_aload_n hx hb dX11_canPut_23 rfl (lv_at hl 0 rfl) ?_
  refine va_get (D := D) (ci := 11) (v := .int (zI (σ.1 0))) (C := RX11) (T := TX11) (N := 40) hx hb hts (fun _ h => List.mem_cons_of_mem _ (List.mem_append_right _ h)) hown hK hw.1 0 rfl rfl 0 (by decide) (hts (.fieldLink RX11 90 "EggThronesModel" "holds" "I") (List.mem_of_getElem? (i := 2) rfl)) (fun _ h9 => h9) rfl dX11_canPut_24 ?_
  obtain ⟨hg27, hf⟩ := gd_s hf
  refine zv_icmp_ge (tgt := 34) hx hb hg27 dX11_canPut_27 (by decide) (fun (c27 : (σ.1 0) ≤ r20) => ?_) (fun (c27 : ¬ ((σ.1 0) ≤ r20)) => ?_)
  · rw [if_pos c27] at hf
    refine lv_iconst (v := zI 0) hx hb dX11_canPut_34 rfl ?_
    cases hf
    exact hret H locs ls 35 dX11_canPut_35 (by decide +kernel) hw
  · rw [if_neg c27] at hf
    refine lv_iconst (v := zI 1) hx hb dX11_canPut_30 rfl ?_
    refine lv_goto (tgt := 35) hx hb dX11_canPut_31 (by decide) ?_
    cases hf
    exact hret H locs ls 35 dX11_canPut_35 (by decide +kernel) hw
set_option maxHeartbeats 4000000 in
set_option maxRecDepth 100000 in
theorem wX11_canPut_0 {p : Program} {l : Launch} {e : Env} {s : State} {m : MethodId} {args : Array Value} {below : List Frame} {meth : Method} {c : Code} {D : va_G} {A : Nat → Prop} {q : Nat → Nat} {cI cZ : ClassId} {Q : State → Prop} {σ : St} {r : Int} (C : Cx p s m args meth c D (TY cI cZ) cX11_canPut (some .boolean) 2 wsX11_canPut RX11) (hret : RtZ p l e rmX11_canPut s m args below meth c D A cX11_canPut Q (wM q cI cZ σ) (zI r)) :
    ∀ (x1 : Int) (H : Heap) (locs : List Loc) (ls : Array Slot), Wd D A s (wM q cI cZ σ) H locs → lv_has ls 2 [(0, .ref (q 0)), (1, .int (zI x1))] → pX11_canPut_0 σ x1 = some r → W p l e rmX11_canPut s m args below meth c H locs 0 0 Q (F0 m 0 ls []) := by
  obtain ⟨hx, hb, hr, hml, hown, hts, hlk, hK, hN⟩ := id C
  intro x1 H locs ls hw hl hf
  rw [pX11_canPut_0] at hf
  refine lv_aload_n hx hb dX11_canPut_0 rfl (lv_at hl 0 rfl) ?_
  refine va_get (D := D) (ci := 11) (v := .ref (q 6)) (C := RX11) (T := TX11) (N := 40) hx hb hts (fun _ h => List.mem_cons_of_mem _ (List.mem_append_right _ h)) hown hK hw.1 0 rfl rfl 9 (by decide) (hts (.fieldLink RX11 25 "EggThronesModel" "now" "[I") (List.mem_of_getElem? (i := 1) rfl)) (fun _ h9 => h9) rfl dX11_canPut_1 ?_
  refine lv_iload_n hx hb dX11_canPut_4 rfl (lv_at hl 1 rfl) ?_
  obtain ⟨hi5, hf⟩ := gd_s hf
  refine zv_iald (D := D) hx hb hK hw.1 6 0 rfl rfl hi5 (by decide) dX11_canPut_5 ?_
  obtain ⟨hg6, hf⟩ := gd_s hf
  refine zv_if_eq (tgt := 19) hx hb hg6 dX11_canPut_6 (by decide) (fun (c6 : (σ.2 5 (Int.toNat x1)) = 0) => ?_) (fun (c6 : ¬ ((σ.2 5 (Int.toNat x1)) = 0)) => ?_)
  · rw [if_pos c6] at hf
    exact wX11_canPut_19 C hret H locs ls hw (lv_sub hl [0] rfl) hf
  · rw [if_neg c6] at hf
    refine lv_aload_n hx hb dX11_canPut_9 rfl (lv_at hl 0 rfl) ?_
    refine va_get (D := D) (ci := 11) (v := .ref (q 6)) (C := RX11) (T := TX11) (N := 40) hx hb hts (fun _ h => List.mem_cons_of_mem _ (List.mem_append_right _ h)) hown hK hw.1 0 rfl rfl 9 (by decide) (hts (.fieldLink RX11 25 "EggThronesModel" "now" "[I") (List.mem_of_getElem? (i := 1) rfl)) (fun _ h9 => h9) rfl dX11_canPut_10 ?_
    refine lv_iload_n hx hb dX11_canPut_13 rfl (lv_at hl 1 rfl) ?_
    obtain ⟨hi14, hf⟩ := gd_s hf
    refine zv_iald (D := D) hx hb hK hw.1 6 0 rfl rfl hi14 (by decide) dX11_canPut_14 ?_
    refine lv_iconst (v := zI 2) hx hb dX11_canPut_15 rfl ?_
    obtain ⟨hg16, hf⟩ := gd_s hf
    refine zv_icmp_ne (tgt := 34) hx hb ⟨hg16, by decide⟩ dX11_canPut_16 (by decide) (fun (c16 : ¬ ((σ.2 5 (Int.toNat x1)) = 2)) => ?_) (fun (c16 : (σ.2 5 (Int.toNat x1)) = 2) => ?_)
    · rw [if_neg c16] at hf
      refine lv_iconst (v := zI 0) hx hb dX11_canPut_34 rfl ?_
      cases hf
      exact hret H locs ls 35 dX11_canPut_35 (by decide +kernel) hw
    · rw [if_pos c16] at hf
      exact wX11_canPut_19 C hret H locs ls hw (lv_sub hl [0] rfl) hf
set_option maxHeartbeats 4000000 in
set_option maxRecDepth 100000 in
theorem tX11_canPut {l : Launch} {D : va_G} {A : Nat → Prop} {cI cZ : ClassId} {q : Nat → Nat} {σ : St} {x1 : Int} {r : Int} (hf : pX11_canPut σ x1 = some r) : Met l yX11_canPut wsX11_canPut rmX11_canPut (va_Pc [.ref (q 0), .int (zI x1)] (CX D (TY cI cZ) A (wM q cI cZ σ))) (QI D (TY cI cZ) A (wM q cI cZ σ) (zI r)) 0 0 A := by
  refine opn (cc := cX11_canPut) (maxL := 2) (ret := (some .boolean)) (by decide) rfl (Nat.le_of_ble_eq_true rfl) (fun p e s m below meth c C ls hw hl => ?_)
  have hl : lv_has ls 2 [(0, .ref (q 0)), (1, .int (zI x1))] := hl
  rw [pX11_canPut] at hf
  exact wX11_canPut_0 C (rtZ C) x1 _ _ ls hw (lv_sub hl [0, 1] rfl) hf
abbrev rmX11_put : Room := { frames := 2, cells := 0, slots := 0, locals := 46 }
set_option maxHeartbeats 4000000 in
set_option maxRecDepth 100000 in
theorem wX11_put_0 {p : Program} {l : Launch} {e : Env} {s : State} {m : MethodId} {args : Array Value} {below : List Frame} {meth : Method} {c : Code} {D : va_G} {A : Nat → Prop} {q : Nat → Nat} {cI cZ : ClassId} {Q : State → Prop} {r : Int} {τ : St} (C : Cx p s m args meth c D (TY cI cZ) cX11_put (some .int) 2 wsX11_put RX11) (hret : RtI p l e rmX11_put s m args below meth c D A cX11_put Q (wM q cI cZ τ) (zI r)) :
    ∀ (σ : St) (x1 : Int) (H : Heap) (locs : List Loc) (ls : Array Slot), Wd D A s (wM q cI cZ σ) H locs → lv_has ls 2 [(0, .ref (q 0)), (1, .int (zI x1))] → pX11_put_0 σ x1 = some (r, τ) → W p l e rmX11_put s m args below meth c H locs 0 0 Q (F0 m 0 ls []) := by
  obtain ⟨hx, hb, hr, hml, hown, hts, hlk, hK, hN⟩ := id C
  intro σ x1 H locs ls hw hl hf
  rw [pX11_put_0] at hf
  refine lv_aload_n hx hb dX11_put_0 rfl (lv_at hl 0 rfl) ?_
  refine lv_iload_n hx hb dX11_put_1 rfl (lv_at hl 1 rfl) ?_
  obtain ⟨r2, h2, hf⟩ := bd_s hf
  replace hf := bt_s hf
  refine gVi (As := [.int (zI x1)]) (rest := []) C hw (tX11_isEgg h2) (cwV 1 hts gX11_put_X11_isEgg rfl rfl rfl (by decide +kernel) ⟨Nat.le_of_ble_eq_true rfl, Nat.le_of_ble_eq_true rfl⟩) 11 0 rfl rfl rfl hl.1 rfl (Nat.le_of_ble_eq_true rfl) dX11_put_2 (fun H locs hw => ?_)
  obtain ⟨hg5, hf⟩ := gd_s hf
  refine zv_if_ne (tgt := 11) hx hb hg5 dX11_put_5 (by decide) (fun (c5 : ¬ (r2 = 0)) => ?_) (fun (c5 : r2 = 0) => ?_)
  · rw [if_neg c5] at hf
    refine lv_aload_n hx hb dX11_put_11 rfl (lv_at hl 0 rfl) ?_
    refine lv_iload_n hx hb dX11_put_12 rfl (lv_at hl 1 rfl) ?_
    obtain ⟨r13, h13, hf⟩ := bd_s hf
    replace hf := bt_s hf
    refine gVi (As := [.int (zI x1)]) (rest := []) C hw (tX11_canPut h13) (cwV 1 hts gX11_put_X11_canPut rfl rfl rfl (by decide +kernel) ⟨Nat.le_of_ble_eq_true rfl, Nat.le_of_ble_eq_true rfl⟩) 11 0 rfl rfl rfl hl.1 rfl (Nat.le_of_ble_eq_true rfl) dX11_put_13 (fun H locs hw => ?_)
    obtain ⟨hg16, hf⟩ := gd_s hf
    refine zv_if_ne (tgt := 22) hx hb hg16 dX11_put_16 (by decide) (fun (c16 : ¬ (r13 = 0)) => ?_) (fun (c16 : r13 = 0) => ?_)
    · rw [if_neg c16] at hf
      refine lv_aload_n hx hb dX11_put_22 rfl (lv_at hl 0 rfl) ?_
      obtain ⟨σ23, h23, hf⟩ := bd_s hf
      replace hf := bt_s hf
      refine gVv (As := []) (rest := []) C hw (tX11_remember h23) (cwV 0 hts gX11_put_X11_remember rfl rfl rfl (by decide +kernel) ⟨Nat.le_of_ble_eq_true rfl, Nat.le_of_ble_eq_true rfl⟩) 11 0 rfl rfl rfl hl.1 rfl (Nat.le_of_ble_eq_true rfl) dX11_put_23 (fun H locs hw => ?_)
      refine lv_aload_n hx hb dX11_put_26 rfl (lv_at hl 0 rfl) ?_
      refine va_get (D := D) (ci := 11) (v := .ref (q 6)) (C := RX11) (T := TX11) (N := 40) hx hb hts (fun _ h => List.mem_cons_of_mem _ (List.mem_append_right _ h)) hown hK hw.1 0 rfl rfl 9 (by decide) (hts (.fieldLink RX11 25 "EggThronesModel" "now" "[I") (List.mem_of_getElem? (i := 3) rfl)) (fun _ h9 => h9) rfl dX11_put_27 ?_
      refine lv_iload_n hx hb dX11_put_30 rfl (lv_at hl 1 rfl) ?_
      refine lv_iconst (v := zI 1) hx hb dX11_put_31 rfl ?_
      obtain ⟨hi32, hf⟩ := gd_s hf
      refine zv_iast (D := D) hx hb hK hw.1 hw.2.1 hw.2.2 6 0 rfl rfl hi32 (by decide) dX11_put_32 (fun H locs hP hD hS => ?_)
      have hw : Wd D A s (wM q cI cZ (sA σ23 5 (va_up (σ23.2 5) (Int.toNat x1) 1))) H locs := wdaM_5 hP hD hS
      obtain ⟨σ32, e32, hf⟩ := nm_s hf
      replace hf := bt_s hf
      rw [← e32] at hw
      refine lv_aload_n hx hb dX11_put_33 rfl (lv_at hl 0 rfl) ?_
      obtain ⟨r34, h34, hf⟩ := bd_s hf
      replace hf := bt_s hf
      refine gVi (As := []) (rest := []) C hw (tX11_inPan h34) (cwV 0 hts gX11_put_X11_inPan rfl rfl rfl (by decide +kernel) ⟨Nat.le_of_ble_eq_true rfl, Nat.le_of_ble_eq_true rfl⟩) 11 0 rfl rfl rfl hl.1 rfl (Nat.le_of_ble_eq_true rfl) dX11_put_34 (fun H locs hw => ?_)
      cases hf
      exact hret H locs ls 37 dX11_put_37 hw
    · rw [if_pos c16] at hf
      refine zv_ldc hx hb (-1000000003) (by decide +kernel) hown (hts (.constant RX11 206 (-1000000003)) (List.mem_of_getElem? (i := 2) rfl)) dX11_put_19 ?_
      cases hf
      exact hret H locs ls 21 dX11_put_21 hw
  · rw [if_pos c5] at hf
    refine zv_ldc hx hb (-1000000001) (by decide +kernel) hown (hts (.constant RX11 200 (-1000000001)) (List.mem_of_getElem? (i := 1) rfl)) dX11_put_8 ?_
    cases hf
    exact hret H locs ls 10 dX11_put_10 hw
set_option maxHeartbeats 4000000 in
set_option maxRecDepth 100000 in
theorem tX11_put {l : Launch} {D : va_G} {A : Nat → Prop} {cI cZ : ClassId} {q : Nat → Nat} {σ : St} {x1 : Int} {r : Int} {τ : St} (hf : pX11_put σ x1 = some (r, τ)) : Met l yX11_put wsX11_put rmX11_put (va_Pc [.ref (q 0), .int (zI x1)] (CX D (TY cI cZ) A (wM q cI cZ σ))) (QI D (TY cI cZ) A (wM q cI cZ τ) (zI r)) 0 0 A := by
  refine opn (cc := cX11_put) (maxL := 2) (ret := (some .int)) (by decide) rfl (Nat.le_of_ble_eq_true rfl) (fun p e s m below meth c C ls hw hl => ?_)
  have hl : lv_has ls 2 [(0, .ref (q 0)), (1, .int (zI x1))] := hl
  rw [pX11_put] at hf
  exact wX11_put_0 C (rtI C) σ x1 _ _ ls hw (lv_sub hl [0, 1] rfl) hf
abbrev rmX4_canComeOut : Room := { frames := 2, cells := 0, slots := 0, locals := 42 }
set_option maxHeartbeats 4000000 in
set_option maxRecDepth 100000 in
theorem wX4_canComeOut_0 {p : Program} {l : Launch} {e : Env} {s : State} {m : MethodId} {args : Array Value} {below : List Frame} {meth : Method} {c : Code} {D : va_G} {A : Nat → Prop} {q : Nat → Nat} {cI cZ : ClassId} {Q : State → Prop} {σ : St} {r : Int} (C : Cx p s m args meth c D (TY cI cZ) cX4_canComeOut (some .boolean) 2 wsX4_canComeOut RX4) (hret : RtZ p l e rmX4_canComeOut s m args below meth c D A cX4_canComeOut Q (wE q cI cZ σ) (zI r)) :
    ∀ (x1 : Int) (H : Heap) (locs : List Loc) (ls : Array Slot), Wd D A s (wE q cI cZ σ) H locs → lv_has ls 2 [(0, .ref (q 15)), (1, .int (zI x1))] → pX4_canComeOut_0 σ x1 = some r → W p l e rmX4_canComeOut s m args below meth c H locs 0 0 Q (F0 m 0 ls []) := by
  obtain ⟨hx, hb, hr, hml, hown, hts, hlk, hK, hN⟩ := id C
  intro x1 H locs ls hw hl hf
  rw [pX4_canComeOut_0] at hf
  refine lv_aload_n hx hb dX4_canComeOut_0 rfl (lv_at hl 0 rfl) ?_
  refine lv_iload_n hx hb dX4_canComeOut_1 rfl (lv_at hl 1 rfl) ?_
  obtain ⟨r2, h2, hf⟩ := bd_s hf
  replace hf := bt_s hf
  refine gVi (As := [.int (zI x1)]) (rest := []) C hw (tX4_stateOf h2) (cwV 1 hts gX4_canComeOut_X4_stateOf rfl rfl rfl (by decide +kernel) ⟨Nat.le_of_ble_eq_true rfl, Nat.le_of_ble_eq_true rfl⟩) 4 15 rfl rfl rfl hl.1 rfl (Nat.le_of_ble_eq_true rfl) dX4_canComeOut_2 (fun H locs hw => ?_)
  refine lv_iconst (v := zI 1) hx hb dX4_canComeOut_5 rfl ?_
  obtain ⟨hg6, hf⟩ := gd_s hf
  refine zv_icmp_ne (tgt := 13) hx hb ⟨hg6, by decide⟩ dX4_canComeOut_6 (by decide) (fun (c6 : ¬ (r2 = 1)) => ?_) (fun (c6 : r2 = 1) => ?_)
  · rw [if_neg c6] at hf
    refine lv_iconst (v := zI 0) hx hb dX4_canComeOut_13 rfl ?_
    cases hf
    exact hret H locs ls 14 dX4_canComeOut_14 (by decide +kernel) hw
  · rw [if_pos c6] at hf
    refine lv_iconst (v := zI 1) hx hb dX4_canComeOut_9 rfl ?_
    refine lv_goto (tgt := 14) hx hb dX4_canComeOut_10 (by decide) ?_
    cases hf
    exact hret H locs ls 14 dX4_canComeOut_14 (by decide +kernel) hw
set_option maxHeartbeats 4000000 in
set_option maxRecDepth 100000 in
theorem tX4_canComeOut {l : Launch} {D : va_G} {A : Nat → Prop} {cI cZ : ClassId} {q : Nat → Nat} {σ : St} {x1 : Int} {r : Int} (hf : pX4_canComeOut σ x1 = some r) : Met l yX4_canComeOut wsX4_canComeOut rmX4_canComeOut (va_Pc [.ref (q 15), .int (zI x1)] (CX D (TY cI cZ) A (wE q cI cZ σ))) (QI D (TY cI cZ) A (wE q cI cZ σ) (zI r)) 0 0 A := by
  refine opn (cc := cX4_canComeOut) (maxL := 2) (ret := (some .boolean)) (by decide) rfl (Nat.le_of_ble_eq_true rfl) (fun p e s m below meth c C ls hw hl => ?_)
  have hl : lv_has ls 2 [(0, .ref (q 15)), (1, .int (zI x1))] := hl
  rw [pX4_canComeOut] at hf
  exact wX4_canComeOut_0 C (rtZ C) x1 _ _ ls hw (lv_sub hl [0, 1] rfl) hf
abbrev rmX4_comeOut : Room := { frames := 2, cells := 0, slots := 0, locals := 43 }
set_option maxHeartbeats 4000000 in
set_option maxRecDepth 100000 in
theorem wX4_comeOut_0 {p : Program} {l : Launch} {e : Env} {s : State} {m : MethodId} {args : Array Value} {below : List Frame} {meth : Method} {c : Code} {D : va_G} {A : Nat → Prop} {q : Nat → Nat} {cI cZ : ClassId} {Q : State → Prop} {τ : St} (C : Cx p s m args meth c D (TY cI cZ) cX4_comeOut none 2 wsX4_comeOut RX4) (hret : RtV p l e rmX4_comeOut s m args below meth c D A cX4_comeOut Q (wE q cI cZ τ)) :
    ∀ (σ : St) (x1 : Int) (H : Heap) (locs : List Loc) (ls : Array Slot), Wd D A s (wE q cI cZ σ) H locs → lv_has ls 2 [(0, .ref (q 15)), (1, .int (zI x1))] → pX4_comeOut_0 σ x1 = some τ → W p l e rmX4_comeOut s m args below meth c H locs 0 0 Q (F0 m 0 ls []) := by
  obtain ⟨hx, hb, hr, hml, hown, hts, hlk, hK, hN⟩ := id C
  intro σ x1 H locs ls hw hl hf
  rw [pX4_comeOut_0] at hf
  refine lv_aload_n hx hb dX4_comeOut_0 rfl (lv_at hl 0 rfl) ?_
  refine lv_iload_n hx hb dX4_comeOut_1 rfl (lv_at hl 1 rfl) ?_
  refine lv_iconst (v := zI 2) hx hb dX4_comeOut_2 rfl ?_
  obtain ⟨σ3, h3, hf⟩ := bd_s hf
  replace hf := bt_s hf
  refine gVv (As := [.int (zI x1), .int (zI 2)]) (rest := []) C hw (tX4_setState h3) (cwV 2 hts gX4_comeOut_X4_setState rfl rfl rfl (by decide +kernel) ⟨Nat.le_of_ble_eq_true rfl, Nat.le_of_ble_eq_true rfl⟩) 4 15 rfl rfl rfl hl.1 rfl (Nat.le_of_ble_eq_true rfl) dX4_comeOut_3 (fun H locs hw => ?_)
  cases hf
  exact hret H locs ls 6 dX4_comeOut_6 hw
set_option maxHeartbeats 4000000 in
set_option maxRecDepth 100000 in
theorem tX4_comeOut {l : Launch} {D : va_G} {A : Nat → Prop} {cI cZ : ClassId} {q : Nat → Nat} {σ : St} {x1 : Int} {τ : St} (hf : pX4_comeOut σ x1 = some τ) : Met l yX4_comeOut wsX4_comeOut rmX4_comeOut (va_Pc [.ref (q 15), .int (zI x1)] (CX D (TY cI cZ) A (wE q cI cZ σ))) (QV D (TY cI cZ) A (wE q cI cZ τ)) 0 0 A := by
  refine opn (cc := cX4_comeOut) (maxL := 2) (ret := none) (by decide) rfl (Nat.le_of_ble_eq_true rfl) (fun p e s m below meth c C ls hw hl => ?_)
  have hl : lv_has ls 2 [(0, .ref (q 15)), (1, .int (zI x1))] := hl
  rw [pX4_comeOut] at hf
  exact wX4_comeOut_0 C (rtV C) σ x1 _ _ ls hw (lv_sub hl [0, 1] rfl) hf
abbrev rmX10_takeOut : Room := { frames := 3, cells := 0, slots := 0, locals := 105 }
set_option maxHeartbeats 4000000 in
set_option maxRecDepth 100000 in
theorem wX10_takeOut_0 {p : Program} {l : Launch} {e : Env} {s : State} {m : MethodId} {args : Array Value} {below : List Frame} {meth : Method} {c : Code} {D : va_G} {A : Nat → Prop} {q : Nat → Nat} {cI cZ : ClassId} {Q : State → Prop} {r : Int} {τ : St} (C : Cx p s m args meth c D (TY cI cZ) cX10_takeOut (some .int) 2 wsX10_takeOut RX10) (hret : RtI p l e rmX10_takeOut s m args below meth c D A cX10_takeOut Q (wE q cI cZ τ) (zI r)) :
    ∀ (σ : St) (x1 : Int) (H : Heap) (locs : List Loc) (ls : Array Slot), Wd D A s (wE q cI cZ σ) H locs → lv_has ls 2 [(0, .ref (q 0)), (1, .int (zI x1))] → pX10_takeOut_0 σ x1 = some (r, τ) → W p l e rmX10_takeOut s m args below meth c H locs 0 0 Q (F0 m 0 ls []) := by
  obtain ⟨hx, hb, hr, hml, hown, hts, hlk, hK, hN⟩ := id C
  intro σ x1 H locs ls hw hl hf
  rw [pX10_takeOut_0] at hf
  refine lv_aload_n hx hb dX10_takeOut_0 rfl (lv_at hl 0 rfl) ?_
  refine va_get (D := D) (ci := 10) (v := .ref (q 1)) (C := RX10) (T := TX10) (N := 13) hx hb hts (fun _ h => List.mem_cons_of_mem _ (List.mem_append_left _ (List.mem_append_left _ (List.mem_append_left _ (List.mem_append_right _ h))))) hown hK hw.1 0 rfl rfl 1 (by decide) (hts (.fieldLink RX10 19 "EggThrones" "laid" "LEggThrones$Table;") (List.mem_of_getElem? (i := 1) rfl)) (fun _ h9 => h9) rfl dX10_takeOut_1 ?_
  refine lv_iload_n hx hb dX10_takeOut_4 rfl (lv_at hl 1 rfl) ?_
  obtain ⟨r5, h5, hf⟩ := bd_s hf
  replace hf := bt_s hf
  refine gVi (As := [.int (zI x1)]) (rest := []) C hw (tX8_hasEgg_c1 h5) (cwV 1 hts gX10_takeOut_X8_hasEgg rfl rfl rfl (by decide +kernel) ⟨Nat.le_of_ble_eq_true rfl, Nat.le_of_ble_eq_true rfl⟩) 8 1 rfl rfl rfl hl.1 rfl (Nat.le_of_ble_eq_true rfl) dX10_takeOut_5 (fun H locs hw => ?_)
  obtain ⟨hg8, hf⟩ := gd_s hf
  refine zv_if_ne (tgt := 14) hx hb hg8 dX10_takeOut_8 (by decide) (fun (c8 : ¬ (r5 = 0)) => ?_) (fun (c8 : r5 = 0) => ?_)
  · rw [if_neg c8] at hf
    refine lv_aload_n hx hb dX10_takeOut_14 rfl (lv_at hl 0 rfl) ?_
    refine va_get (D := D) (ci := 10) (v := .ref (q 15)) (C := RX10) (T := TX10) (N := 13) hx hb hts (fun _ h => List.mem_cons_of_mem _ (List.mem_append_left _ (List.mem_append_left _ (List.mem_append_left _ (List.mem_append_right _ h))))) hown hK hw.1 0 rfl rfl 3 (by decide) (hts (.fieldLink RX10 31 "EggThrones" "now" "LEggThrones$Morning;") (List.mem_of_getElem? (i := 3) rfl)) (fun _ h9 => h9) rfl dX10_takeOut_15 ?_
    refine lv_iload_n hx hb dX10_takeOut_18 rfl (lv_at hl 1 rfl) ?_
    obtain ⟨r19, h19, hf⟩ := bd_s hf
    replace hf := bt_s hf
    refine gVi (As := [.int (zI x1)]) (rest := []) C hw (tX4_canComeOut h19) (cwV 1 hts gX10_takeOut_X4_canComeOut rfl rfl rfl (by decide +kernel) ⟨Nat.le_of_ble_eq_true rfl, Nat.le_of_ble_eq_true rfl⟩) 4 15 rfl rfl rfl hl.1 rfl (Nat.le_of_ble_eq_true rfl) dX10_takeOut_19 (fun H locs hw => ?_)
    obtain ⟨hg22, hf⟩ := gd_s hf
    refine zv_if_ne (tgt := 28) hx hb hg22 dX10_takeOut_22 (by decide) (fun (c22 : ¬ (r19 = 0)) => ?_) (fun (c22 : r19 = 0) => ?_)
    · rw [if_neg c22] at hf
      refine lv_aload_n hx hb dX10_takeOut_28 rfl (lv_at hl 0 rfl) ?_
      refine va_get (D := D) (ci := 10) (v := .ref (q 18)) (C := RX10) (T := TX10) (N := 13) hx hb hts (fun _ h => List.mem_cons_of_mem _ (List.mem_append_left _ (List.mem_append_left _ (List.mem_append_left _ (List.mem_append_right _ h))))) hown hK hw.1 0 rfl rfl 4 (by decide) (hts (.fieldLink RX10 38 "EggThrones" "past" "LEggThrones$Past;") (List.mem_of_getElem? (i := 5) rfl)) (fun _ h9 => h9) rfl dX10_takeOut_29 ?_
      refine lv_aload_n hx hb dX10_takeOut_32 rfl (lv_at hl 0 rfl) ?_
      refine va_get (D := D) (ci := 10) (v := .ref (q 15)) (C := RX10) (T := TX10) (N := 13) hx hb hts (fun _ h => List.mem_cons_of_mem _ (List.mem_append_left _ (List.mem_append_left _ (List.mem_append_left _ (List.mem_append_right _ h))))) hown hK hw.1 0 rfl rfl 3 (by decide) (hts (.fieldLink RX10 31 "EggThrones" "now" "LEggThrones$Morning;") (List.mem_of_getElem? (i := 3) rfl)) (fun _ h9 => h9) rfl dX10_takeOut_33 ?_
      obtain ⟨σ36, h36, hf⟩ := bd_s hf
      replace hf := bt_s hf
      refine gVv (As := [.ref (q 15)]) (rest := []) C hw (tX5_remember h36) (cwV 1 hts gX10_takeOut_X5_remember rfl rfl rfl (by decide +kernel) ⟨Nat.le_of_ble_eq_true rfl, Nat.le_of_ble_eq_true rfl⟩) 5 18 rfl rfl rfl hl.1 rfl (Nat.le_of_ble_eq_true rfl) dX10_takeOut_36 (fun H locs hw => ?_)
      refine lv_aload_n hx hb dX10_takeOut_39 rfl (lv_at hl 0 rfl) ?_
      refine va_get (D := D) (ci := 10) (v := .ref (q 15)) (C := RX10) (T := TX10) (N := 13) hx hb hts (fun _ h => List.mem_cons_of_mem _ (List.mem_append_left _ (List.mem_append_left _ (List.mem_append_left _ (List.mem_append_right _ h))))) hown hK hw.1 0 rfl rfl 3 (by decide) (hts (.fieldLink RX10 31 "EggThrones" "now" "LEggThrones$Morning;") (List.mem_of_getElem? (i := 3) rfl)) (fun _ h9 => h9) rfl dX10_takeOut_40 ?_
      refine lv_iload_n hx hb dX10_takeOut_43 rfl (lv_at hl 1 rfl) ?_
      obtain ⟨σ44, h44, hf⟩ := bd_s hf
      replace hf := bt_s hf
      refine gVv (As := [.int (zI x1)]) (rest := []) C hw (tX4_comeOut h44) (cwV 1 hts gX10_takeOut_X4_comeOut rfl rfl rfl (by decide +kernel) ⟨Nat.le_of_ble_eq_true rfl, Nat.le_of_ble_eq_true rfl⟩) 4 15 rfl rfl rfl hl.1 rfl (Nat.le_of_ble_eq_true rfl) dX10_takeOut_44 (fun H locs hw => ?_)
      refine lv_aload_n hx hb dX10_takeOut_47 rfl (lv_at hl 0 rfl) ?_
      refine va_get (D := D) (ci := 10) (v := .ref (q 15)) (C := RX10) (T := TX10) (N := 13) hx hb hts (fun _ h => List.mem_cons_of_mem _ (List.mem_append_left _ (List.mem_append_left _ (List.mem_append_left _ (List.mem_append_right _ h))))) hown hK hw.1 0 rfl rfl 3 (by decide) (hts (.fieldLink RX10 31 "EggThrones" "now" "LEggThrones$Morning;") (List.mem_of_getElem? (i := 3) rfl)) (fun _ h9 => h9) rfl dX10_takeOut_48 ?_
      refine lv_iload_n hx hb dX10_takeOut_51 rfl (lv_at hl 1 rfl) ?_
      obtain ⟨r52, h52, hf⟩ := bd_s hf
      replace hf := bt_s hf
      refine gVi (As := [.int (zI x1)]) (rest := []) C hw (tX4_hardnessOf h52) (cwV 1 hts gX10_takeOut_X4_hardnessOf rfl rfl rfl (by decide +kernel) ⟨Nat.le_of_ble_eq_true rfl, Nat.le_of_ble_eq_true rfl⟩) 4 15 rfl rfl rfl hl.1 rfl (Nat.le_of_ble_eq_true rfl) dX10_takeOut_52 (fun H locs hw => ?_)
      cases hf
      exact hret H locs ls 55 dX10_takeOut_55 hw
    · rw [if_pos c22] at hf
      refine zv_ldc hx hb (-1000000003) (by decide +kernel) hown (hts (.constant RX10 219 (-1000000003)) (List.mem_of_getElem? (i := 4) rfl)) dX10_takeOut_25 ?_
      cases hf
      exact hret H locs ls 27 dX10_takeOut_27 hw
  · rw [if_pos c8] at hf
    refine zv_ldc hx hb (-1000000001) (by decide +kernel) hown (hts (.constant RX10 175 (-1000000001)) (List.mem_of_getElem? (i := 2) rfl)) dX10_takeOut_11 ?_
    cases hf
    exact hret H locs ls 13 dX10_takeOut_13 hw
set_option maxHeartbeats 4000000 in
set_option maxRecDepth 100000 in
theorem tX10_takeOut {l : Launch} {D : va_G} {A : Nat → Prop} {cI cZ : ClassId} {q : Nat → Nat} {σ : St} {x1 : Int} {r : Int} {τ : St} (hf : pX10_takeOut σ x1 = some (r, τ)) : Met l yX10_takeOut wsX10_takeOut rmX10_takeOut (va_Pc [.ref (q 0), .int (zI x1)] (CX D (TY cI cZ) A (wE q cI cZ σ))) (QI D (TY cI cZ) A (wE q cI cZ τ) (zI r)) 0 0 A := by
  refine opn (cc := cX10_takeOut) (maxL := 2) (ret := (some .int)) (by decide) rfl (Nat.le_of_ble_eq_true rfl) (fun p e s m below meth c C ls hw hl => ?_)
  have hl : lv_has ls 2 [(0, .ref (q 0)), (1, .int (zI x1))] := hl
  rw [pX10_takeOut] at hf
  exact wX10_takeOut_0 C (rtI C) σ x1 _ _ ls hw (lv_sub hl [0, 1] rfl) hf
abbrev rmX11_takeOut : Room := { frames := 2, cells := 0, slots := 0, locals := 46 }
set_option maxHeartbeats 4000000 in
set_option maxRecDepth 100000 in
theorem wX11_takeOut_0 {p : Program} {l : Launch} {e : Env} {s : State} {m : MethodId} {args : Array Value} {below : List Frame} {meth : Method} {c : Code} {D : va_G} {A : Nat → Prop} {q : Nat → Nat} {cI cZ : ClassId} {Q : State → Prop} {r : Int} {τ : St} (C : Cx p s m args meth c D (TY cI cZ) cX11_takeOut (some .int) 2 wsX11_takeOut RX11) (hret : RtI p l e rmX11_takeOut s m args below meth c D A cX11_takeOut Q (wM q cI cZ τ) (zI r)) :
    ∀ (σ : St) (x1 : Int) (H : Heap) (locs : List Loc) (ls : Array Slot), Wd D A s (wM q cI cZ σ) H locs → lv_has ls 2 [(0, .ref (q 0)), (1, .int (zI x1))] → pX11_takeOut_0 σ x1 = some (r, τ) → W p l e rmX11_takeOut s m args below meth c H locs 0 0 Q (F0 m 0 ls []) := by
  obtain ⟨hx, hb, hr, hml, hown, hts, hlk, hK, hN⟩ := id C
  intro σ x1 H locs ls hw hl hf
  rw [pX11_takeOut_0] at hf
  refine lv_aload_n hx hb dX11_takeOut_0 rfl (lv_at hl 0 rfl) ?_
  refine lv_iload_n hx hb dX11_takeOut_1 rfl (lv_at hl 1 rfl) ?_
  obtain ⟨r2, h2, hf⟩ := bd_s hf
  replace hf := bt_s hf
  refine gVi (As := [.int (zI x1)]) (rest := []) C hw (tX11_isEgg h2) (cwV 1 hts gX11_takeOut_X11_isEgg rfl rfl rfl (by decide +kernel) ⟨Nat.le_of_ble_eq_true rfl, Nat.le_of_ble_eq_true rfl⟩) 11 0 rfl rfl rfl hl.1 rfl (Nat.le_of_ble_eq_true rfl) dX11_takeOut_2 (fun H locs hw => ?_)
  obtain ⟨hg5, hf⟩ := gd_s hf
  refine zv_if_ne (tgt := 11) hx hb hg5 dX11_takeOut_5 (by decide) (fun (c5 : ¬ (r2 = 0)) => ?_) (fun (c5 : r2 = 0) => ?_)
  · rw [if_neg c5] at hf
    refine lv_aload_n hx hb dX11_takeOut_11 rfl (lv_at hl 0 rfl) ?_
    refine va_get (D := D) (ci := 11) (v := .ref (q 6)) (C := RX11) (T := TX11) (N := 40) hx hb hts (fun _ h => List.mem_cons_of_mem _ (List.mem_append_right _ h)) hown hK hw.1 0 rfl rfl 9 (by decide) (hts (.fieldLink RX11 25 "EggThronesModel" "now" "[I") (List.mem_of_getElem? (i := 2) rfl)) (fun _ h9 => h9) rfl dX11_takeOut_12 ?_
    refine lv_iload_n hx hb dX11_takeOut_15 rfl (lv_at hl 1 rfl) ?_
    obtain ⟨hi16, hf⟩ := gd_s hf
    refine zv_iald (D := D) hx hb hK hw.1 6 0 rfl rfl hi16 (by decide) dX11_takeOut_16 ?_
    refine lv_iconst (v := zI 1) hx hb dX11_takeOut_17 rfl ?_
    obtain ⟨hg18, hf⟩ := gd_s hf
    refine zv_icmp_eq (tgt := 24) hx hb ⟨hg18, by decide⟩ dX11_takeOut_18 (by decide) (fun (c18 : (σ.2 5 (Int.toNat x1)) = 1) => ?_) (fun (c18 : ¬ ((σ.2 5 (Int.toNat x1)) = 1)) => ?_)
    · rw [if_pos c18] at hf
      refine lv_aload_n hx hb dX11_takeOut_24 rfl (lv_at hl 0 rfl) ?_
      obtain ⟨σ25, h25, hf⟩ := bd_s hf
      replace hf := bt_s hf
      refine gVv (As := []) (rest := []) C hw (tX11_remember h25) (cwV 0 hts gX11_takeOut_X11_remember rfl rfl rfl (by decide +kernel) ⟨Nat.le_of_ble_eq_true rfl, Nat.le_of_ble_eq_true rfl⟩) 11 0 rfl rfl rfl hl.1 rfl (Nat.le_of_ble_eq_true rfl) dX11_takeOut_25 (fun H locs hw => ?_)
      refine lv_aload_n hx hb dX11_takeOut_28 rfl (lv_at hl 0 rfl) ?_
      refine va_get (D := D) (ci := 11) (v := .ref (q 6)) (C := RX11) (T := TX11) (N := 40) hx hb hts (fun _ h => List.mem_cons_of_mem _ (List.mem_append_right _ h)) hown hK hw.1 0 rfl rfl 9 (by decide) (hts (.fieldLink RX11 25 "EggThronesModel" "now" "[I") (List.mem_of_getElem? (i := 2) rfl)) (fun _ h9 => h9) rfl dX11_takeOut_29 ?_
      refine lv_iload_n hx hb dX11_takeOut_32 rfl (lv_at hl 1 rfl) ?_
      refine lv_iconst (v := zI 2) hx hb dX11_takeOut_33 rfl ?_
      obtain ⟨hi34, hf⟩ := gd_s hf
      refine zv_iast (D := D) hx hb hK hw.1 hw.2.1 hw.2.2 6 0 rfl rfl hi34 (by decide) dX11_takeOut_34 (fun H locs hP hD hS => ?_)
      have hw : Wd D A s (wM q cI cZ (sA σ25 5 (va_up (σ25.2 5) (Int.toNat x1) 2))) H locs := wdaM_5 hP hD hS
      obtain ⟨σ34, e34, hf⟩ := nm_s hf
      replace hf := bt_s hf
      rw [← e34] at hw
      refine lv_aload_n hx hb dX11_takeOut_35 rfl (lv_at hl 0 rfl) ?_
      refine lv_iload_n hx hb dX11_takeOut_36 rfl (lv_at hl 1 rfl) ?_
      obtain ⟨r37, h37, hf⟩ := bd_s hf
      replace hf := bt_s hf
      refine gVi (As := [.int (zI x1)]) (rest := []) C hw (tX11_hard h37) (cwV 1 hts gX11_takeOut_X11_hard rfl rfl rfl (by decide +kernel) ⟨Nat.le_of_ble_eq_true rfl, Nat.le_of_ble_eq_true rfl⟩) 11 0 rfl rfl rfl hl.1 rfl (Nat.le_of_ble_eq_true rfl) dX11_takeOut_37 (fun H locs hw => ?_)
      cases hf
      exact hret H locs ls 40 dX11_takeOut_40 hw
    · rw [if_neg c18] at hf
      refine zv_ldc hx hb (-1000000003) (by decide +kernel) hown (hts (.constant RX11 206 (-1000000003)) (List.mem_of_getElem? (i := 3) rfl)) dX11_takeOut_21 ?_
      cases hf
      exact hret H locs ls 23 dX11_takeOut_23 hw
  · rw [if_pos c5] at hf
    refine zv_ldc hx hb (-1000000001) (by decide +kernel) hown (hts (.constant RX11 200 (-1000000001)) (List.mem_of_getElem? (i := 1) rfl)) dX11_takeOut_8 ?_
    cases hf
    exact hret H locs ls 10 dX11_takeOut_10 hw
set_option maxHeartbeats 4000000 in
set_option maxRecDepth 100000 in
theorem tX11_takeOut {l : Launch} {D : va_G} {A : Nat → Prop} {cI cZ : ClassId} {q : Nat → Nat} {σ : St} {x1 : Int} {r : Int} {τ : St} (hf : pX11_takeOut σ x1 = some (r, τ)) : Met l yX11_takeOut wsX11_takeOut rmX11_takeOut (va_Pc [.ref (q 0), .int (zI x1)] (CX D (TY cI cZ) A (wM q cI cZ σ))) (QI D (TY cI cZ) A (wM q cI cZ τ) (zI r)) 0 0 A := by
  refine opn (cc := cX11_takeOut) (maxL := 2) (ret := (some .int)) (by decide) rfl (Nat.le_of_ble_eq_true rfl) (fun p e s m below meth c C ls hw hl => ?_)
  have hl : lv_has ls 2 [(0, .ref (q 0)), (1, .int (zI x1))] := hl
  rw [pX11_takeOut] at hf
  exact wX11_takeOut_0 C (rtI C) σ x1 _ _ ls hw (lv_sub hl [0, 1] rfl) hf
abbrev rmX4_canBeKing : Room := { frames := 2, cells := 0, slots := 0, locals := 42 }
set_option maxHeartbeats 4000000 in
set_option maxRecDepth 100000 in
theorem wX4_canBeKing_0 {p : Program} {l : Launch} {e : Env} {s : State} {m : MethodId} {args : Array Value} {below : List Frame} {meth : Method} {c : Code} {D : va_G} {A : Nat → Prop} {q : Nat → Nat} {cI cZ : ClassId} {Q : State → Prop} {σ : St} {r : Int} (C : Cx p s m args meth c D (TY cI cZ) cX4_canBeKing (some .boolean) 2 wsX4_canBeKing RX4) (hret : RtZ p l e rmX4_canBeKing s m args below meth c D A cX4_canBeKing Q (wE q cI cZ σ) (zI r)) :
    ∀ (x1 : Int) (H : Heap) (locs : List Loc) (ls : Array Slot), Wd D A s (wE q cI cZ σ) H locs → lv_has ls 2 [(0, .ref (q 15)), (1, .int (zI x1))] → pX4_canBeKing_0 σ x1 = some r → W p l e rmX4_canBeKing s m args below meth c H locs 0 0 Q (F0 m 0 ls []) := by
  obtain ⟨hx, hb, hr, hml, hown, hts, hlk, hK, hN⟩ := id C
  intro x1 H locs ls hw hl hf
  rw [pX4_canBeKing_0] at hf
  refine lv_aload_n hx hb dX4_canBeKing_0 rfl (lv_at hl 0 rfl) ?_
  refine lv_iload_n hx hb dX4_canBeKing_1 rfl (lv_at hl 1 rfl) ?_
  obtain ⟨r2, h2, hf⟩ := bd_s hf
  replace hf := bt_s hf
  refine gVi (As := [.int (zI x1)]) (rest := []) C hw (tX4_stateOf h2) (cwV 1 hts gX4_canBeKing_X4_stateOf rfl rfl rfl (by decide +kernel) ⟨Nat.le_of_ble_eq_true rfl, Nat.le_of_ble_eq_true rfl⟩) 4 15 rfl rfl rfl hl.1 rfl (Nat.le_of_ble_eq_true rfl) dX4_canBeKing_2 (fun H locs hw => ?_)
  refine lv_iconst (v := zI 2) hx hb dX4_canBeKing_5 rfl ?_
  obtain ⟨hg6, hf⟩ := gd_s hf
  refine zv_icmp_ne (tgt := 21) hx hb ⟨hg6, by decide⟩ dX4_canBeKing_6 (by decide) (fun (c6 : ¬ (r2 = 2)) => ?_) (fun (c6 : r2 = 2) => ?_)
  · rw [if_neg c6] at hf
    refine lv_iconst (v := zI 0) hx hb dX4_canBeKing_21 rfl ?_
    cases hf
    exact hret H locs ls 22 dX4_canBeKing_22 (by decide +kernel) hw
  · rw [if_pos c6] at hf
    refine lv_aload_n hx hb dX4_canBeKing_9 rfl (lv_at hl 0 rfl) ?_
    refine va_get (D := D) (ci := 4) (v := .int (zI (σ.1 16))) (C := RX4) (T := TX4) (N := 9) hx hb hts (fun _ h => List.mem_cons_of_mem _ (List.mem_append_left _ (List.mem_append_right _ h))) hown hK hw.1 15 rfl rfl 3 (by decide) (hts (.fieldLink RX4 22 "EggThrones$Morning" "king" "I") (List.mem_of_getElem? (i := 1) rfl)) (fun _ h9 => h9) rfl dX4_canBeKing_10 ?_
    refine lv_iconst (v := zI (-1)) hx hb dX4_canBeKing_13 rfl ?_
    obtain ⟨hg14, hf⟩ := gd_s hf
    refine zv_icmp_ne (tgt := 21) hx hb ⟨hg14, by decide⟩ dX4_canBeKing_14 (by decide) (fun (c14 : ¬ ((σ.1 16) = (-1))) => ?_) (fun (c14 : (σ.1 16) = (-1)) => ?_)
    · rw [if_neg c14] at hf
      refine lv_iconst (v := zI 0) hx hb dX4_canBeKing_21 rfl ?_
      cases hf
      exact hret H locs ls 22 dX4_canBeKing_22 (by decide +kernel) hw
    · rw [if_pos c14] at hf
      refine lv_iconst (v := zI 1) hx hb dX4_canBeKing_17 rfl ?_
      refine lv_goto (tgt := 22) hx hb dX4_canBeKing_18 (by decide) ?_
      cases hf
      exact hret H locs ls 22 dX4_canBeKing_22 (by decide +kernel) hw
set_option maxHeartbeats 4000000 in
set_option maxRecDepth 100000 in
theorem tX4_canBeKing {l : Launch} {D : va_G} {A : Nat → Prop} {cI cZ : ClassId} {q : Nat → Nat} {σ : St} {x1 : Int} {r : Int} (hf : pX4_canBeKing σ x1 = some r) : Met l yX4_canBeKing wsX4_canBeKing rmX4_canBeKing (va_Pc [.ref (q 15), .int (zI x1)] (CX D (TY cI cZ) A (wE q cI cZ σ))) (QI D (TY cI cZ) A (wE q cI cZ σ) (zI r)) 0 0 A := by
  refine opn (cc := cX4_canBeKing) (maxL := 2) (ret := (some .boolean)) (by decide) rfl (Nat.le_of_ble_eq_true rfl) (fun p e s m below meth c C ls hw hl => ?_)
  have hl : lv_has ls 2 [(0, .ref (q 15)), (1, .int (zI x1))] := hl
  rw [pX4_canBeKing] at hf
  exact wX4_canBeKing_0 C (rtZ C) x1 _ _ ls hw (lv_sub hl [0, 1] rfl) hf
abbrev rmX4_becomeKing : Room := { frames := 4, cells := 0, slots := 0, locals := 96 }
set_option maxHeartbeats 4000000 in
set_option maxRecDepth 100000 in
theorem wX4_becomeKing_0 {p : Program} {l : Launch} {e : Env} {s : State} {m : MethodId} {args : Array Value} {below : List Frame} {meth : Method} {c : Code} {D : va_G} {A : Nat → Prop} {q : Nat → Nat} {cI cZ : ClassId} {Q : State → Prop} {τ : St} (C : Cx p s m args meth c D (TY cI cZ) cX4_becomeKing none 2 wsX4_becomeKing RX4) (hret : RtV p l e rmX4_becomeKing s m args below meth c D A cX4_becomeKing Q (wE q cI cZ τ)) :
    ∀ (σ : St) (x1 : Int) (H : Heap) (locs : List Loc) (ls : Array Slot), Wd D A s (wE q cI cZ σ) H locs → lv_has ls 2 [(0, .ref (q 15)), (1, .int (zI x1))] → pX4_becomeKing_0 σ x1 = some τ → W p l e rmX4_becomeKing s m args below meth c H locs 0 0 Q (F0 m 0 ls []) := by
  obtain ⟨hx, hb, hr, hml, hown, hts, hlk, hK, hN⟩ := id C
  intro σ x1 H locs ls hw hl hf
  rw [pX4_becomeKing_0] at hf
  refine lv_aload_n hx hb dX4_becomeKing_0 rfl (lv_at hl 0 rfl) ?_
  refine lv_iload_n hx hb dX4_becomeKing_1 rfl (lv_at hl 1 rfl) ?_
  refine lv_iconst (v := zI 3) hx hb dX4_becomeKing_2 rfl ?_
  obtain ⟨σ3, h3, hf⟩ := bd_s hf
  replace hf := bt_s hf
  refine gVv (As := [.int (zI x1), .int (zI 3)]) (rest := []) C hw (tX4_setState h3) (cwV 2 hts gX4_becomeKing_X4_setState rfl rfl rfl (by decide +kernel) ⟨Nat.le_of_ble_eq_true rfl, Nat.le_of_ble_eq_true rfl⟩) 4 15 rfl rfl rfl hl.1 rfl (Nat.le_of_ble_eq_true rfl) dX4_becomeKing_3 (fun H locs hw => ?_)
  refine lv_aload_n hx hb dX4_becomeKing_6 rfl (lv_at hl 0 rfl) ?_
  refine lv_iload_n hx hb dX4_becomeKing_7 rfl (lv_at hl 1 rfl) ?_
  refine va_put (D := D) (ci := 4) (v := .int (zI x1)) (ty := .int) (C := RX4) (T := TX4) (N := 9) hx hb hts (fun _ h => List.mem_cons_of_mem _ (List.mem_append_left _ (List.mem_append_right _ h))) tyX4 tyX4_ok nmX4 hown hK hw.1 hw.2.1 hw.2.2 15 rfl rfl 3 (by decide) (hts (.fieldLink RX4 22 "EggThrones$Morning" "king" "I") (List.mem_of_getElem? (i := 1) rfl)) (fun _ h9 => h9) rfl (by decide +kernel) rfl rfl (Nat.le_of_ble_eq_true rfl) dX4_becomeKing_8 (fun H locs hP hD hS => ?_)
  have hw : Wd D A s (wE q cI cZ (sI σ3 16 x1)) H locs := wdiE_16 hP hD hS
  obtain ⟨σ8, e8, hf⟩ := nm_s hf
  replace hf := bt_s hf
  rw [← e8] at hw
  refine lv_aload_n hx hb dX4_becomeKing_11 rfl (lv_at hl 0 rfl) ?_
  refine lv_aload_n hx hb dX4_becomeKing_12 rfl (lv_at hl 0 rfl) ?_
  refine lv_iload_n hx hb dX4_becomeKing_13 rfl (lv_at hl 1 rfl) ?_
  obtain ⟨r14, h14, hf⟩ := bd_s hf
  replace hf := bt_s hf
  refine gVi (As := [.int (zI x1)]) (rest := [.ref (q 15)]) C hw (tX4_reignOf h14) (cwV 1 hts gX4_becomeKing_X4_reignOf rfl rfl rfl (by decide +kernel) ⟨Nat.le_of_ble_eq_true rfl, Nat.le_of_ble_eq_true rfl⟩) 4 15 rfl rfl rfl hl.1 rfl (Nat.le_of_ble_eq_true rfl) dX4_becomeKing_14 (fun H locs hw => ?_)
  refine va_put (D := D) (ci := 4) (v := .int (zI r14)) (ty := .int) (C := RX4) (T := TX4) (N := 9) hx hb hts (fun _ h => List.mem_cons_of_mem _ (List.mem_append_left _ (List.mem_append_right _ h))) tyX4 tyX4_ok nmX4 hown hK hw.1 hw.2.1 hw.2.2 15 rfl rfl 4 (by decide) (hts (.fieldLink RX4 26 "EggThrones$Morning" "left" "I") (List.mem_of_getElem? (i := 2) rfl)) (fun _ h9 => h9) rfl (by decide +kernel) rfl rfl (Nat.le_of_ble_eq_true rfl) dX4_becomeKing_17 (fun H locs hP hD hS => ?_)
  have hw : Wd D A s (wE q cI cZ (sI σ8 17 r14)) H locs := wdiE_17 hP hD hS
  obtain ⟨σ17, e17, hf⟩ := nm_s hf
  replace hf := bt_s hf
  rw [← e17] at hw
  cases hf
  exact hret H locs ls 20 dX4_becomeKing_20 hw
set_option maxHeartbeats 4000000 in
set_option maxRecDepth 100000 in
theorem tX4_becomeKing {l : Launch} {D : va_G} {A : Nat → Prop} {cI cZ : ClassId} {q : Nat → Nat} {σ : St} {x1 : Int} {τ : St} (hf : pX4_becomeKing σ x1 = some τ) : Met l yX4_becomeKing wsX4_becomeKing rmX4_becomeKing (va_Pc [.ref (q 15), .int (zI x1)] (CX D (TY cI cZ) A (wE q cI cZ σ))) (QV D (TY cI cZ) A (wE q cI cZ τ)) 0 0 A := by
  refine opn (cc := cX4_becomeKing) (maxL := 2) (ret := none) (by decide) rfl (Nat.le_of_ble_eq_true rfl) (fun p e s m below meth c C ls hw hl => ?_)
  have hl : lv_has ls 2 [(0, .ref (q 15)), (1, .int (zI x1))] := hl
  rw [pX4_becomeKing] at hf
  exact wX4_becomeKing_0 C (rtV C) σ x1 _ _ ls hw (lv_sub hl [0, 1] rfl) hf
