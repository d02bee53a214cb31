abbrev rmX10_crown : Room := { frames := 5, cells := 0, slots := 0, locals := 117 }
set_option maxHeartbeats 4000000 in
set_option maxRecDepth 100000 in
theorem wX10_crown_0 {p : Program} {l : Launch} {e : Env} {s : State} {m : MethodId} {args : Array Value} {below : List Frame} {meth : Method} {c : Code} {D : va_G} {A : Nat → Prop} {q : Nat → Nat} {cI cZ : ClassId} {Q : State → Prop} {r : Int} {τ : St} (C : Cx p s m args meth c D (TY cI cZ) cX10_crown (some .int) 2 wsX10_crown RX10) (hret : RtI p l e rmX10_crown s m args below meth c D A cX10_crown Q (wE q cI cZ τ) (zI r)) :
    ∀ (σ : St) (x1 : Int) (H : Heap) (locs : List Loc) (ls : Array Slot), Wd D A s (wE q cI cZ σ) H locs → lv_has ls 2 [(0, .ref (q 0)), (1, .int (zI x1))] → pX10_crown_0 σ x1 = some (r, τ) → W p l e rmX10_crown s m args below meth c H locs 0 0 Q (F0 m 0 ls []) := by
  obtain ⟨hx, hb, hr, hml, hown, hts, hlk, hK, hN⟩ := id C
  intro σ x1 H locs ls hw hl hf
  rw [pX10_crown_0] at hf
  refine lv_aload_n hx hb dX10_crown_0 rfl (lv_at hl 0 rfl) ?_
  refine va_get (D := D) (ci := 10) (v := .ref (q 1)) (C := RX10) (T := TX10) (N := 13) hx hb hts (fun _ h => List.mem_cons_of_mem _ (List.mem_append_left _ (List.mem_append_left _ (List.mem_append_left _ (List.mem_append_right _ h))))) hown hK hw.1 0 rfl rfl 1 (by decide) (hts (.fieldLink RX10 19 "EggThrones" "laid" "LEggThrones$Table;") (List.mem_of_getElem? (i := 1) rfl)) (fun _ h9 => h9) rfl dX10_crown_1 ?_
  refine lv_iload_n hx hb dX10_crown_4 rfl (lv_at hl 1 rfl) ?_
  obtain ⟨r5, h5, hf⟩ := bd_s hf
  replace hf := bt_s hf
  refine gVi (As := [.int (zI x1)]) (rest := []) C hw (tX8_hasEgg_c1 h5) (cwV 1 hts gX10_crown_X8_hasEgg rfl rfl rfl (by decide +kernel) ⟨Nat.le_of_ble_eq_true rfl, Nat.le_of_ble_eq_true rfl⟩) 8 1 rfl rfl rfl hl.1 rfl (Nat.le_of_ble_eq_true rfl) dX10_crown_5 (fun H locs hw => ?_)
  obtain ⟨hg8, hf⟩ := gd_s hf
  refine zv_if_ne (tgt := 14) hx hb hg8 dX10_crown_8 (by decide) (fun (c8 : ¬ (r5 = 0)) => ?_) (fun (c8 : r5 = 0) => ?_)
  · rw [if_neg c8] at hf
    refine lv_aload_n hx hb dX10_crown_14 rfl (lv_at hl 0 rfl) ?_
    refine va_get (D := D) (ci := 10) (v := .ref (q 15)) (C := RX10) (T := TX10) (N := 13) hx hb hts (fun _ h => List.mem_cons_of_mem _ (List.mem_append_left _ (List.mem_append_left _ (List.mem_append_left _ (List.mem_append_right _ h))))) hown hK hw.1 0 rfl rfl 3 (by decide) (hts (.fieldLink RX10 31 "EggThrones" "now" "LEggThrones$Morning;") (List.mem_of_getElem? (i := 3) rfl)) (fun _ h9 => h9) rfl dX10_crown_15 ?_
    refine lv_iload_n hx hb dX10_crown_18 rfl (lv_at hl 1 rfl) ?_
    obtain ⟨r19, h19, hf⟩ := bd_s hf
    replace hf := bt_s hf
    refine gVi (As := [.int (zI x1)]) (rest := []) C hw (tX4_canBeKing h19) (cwV 1 hts gX10_crown_X4_canBeKing rfl rfl rfl (by decide +kernel) ⟨Nat.le_of_ble_eq_true rfl, Nat.le_of_ble_eq_true rfl⟩) 4 15 rfl rfl rfl hl.1 rfl (Nat.le_of_ble_eq_true rfl) dX10_crown_19 (fun H locs hw => ?_)
    obtain ⟨hg22, hf⟩ := gd_s hf
    refine zv_if_ne (tgt := 28) hx hb hg22 dX10_crown_22 (by decide) (fun (c22 : ¬ (r19 = 0)) => ?_) (fun (c22 : r19 = 0) => ?_)
    · rw [if_neg c22] at hf
      refine lv_aload_n hx hb dX10_crown_28 rfl (lv_at hl 0 rfl) ?_
      refine va_get (D := D) (ci := 10) (v := .ref (q 18)) (C := RX10) (T := TX10) (N := 13) hx hb hts (fun _ h => List.mem_cons_of_mem _ (List.mem_append_left _ (List.mem_append_left _ (List.mem_append_left _ (List.mem_append_right _ h))))) hown hK hw.1 0 rfl rfl 4 (by decide) (hts (.fieldLink RX10 38 "EggThrones" "past" "LEggThrones$Past;") (List.mem_of_getElem? (i := 5) rfl)) (fun _ h9 => h9) rfl dX10_crown_29 ?_
      refine lv_aload_n hx hb dX10_crown_32 rfl (lv_at hl 0 rfl) ?_
      refine va_get (D := D) (ci := 10) (v := .ref (q 15)) (C := RX10) (T := TX10) (N := 13) hx hb hts (fun _ h => List.mem_cons_of_mem _ (List.mem_append_left _ (List.mem_append_left _ (List.mem_append_left _ (List.mem_append_right _ h))))) hown hK hw.1 0 rfl rfl 3 (by decide) (hts (.fieldLink RX10 31 "EggThrones" "now" "LEggThrones$Morning;") (List.mem_of_getElem? (i := 3) rfl)) (fun _ h9 => h9) rfl dX10_crown_33 ?_
      obtain ⟨σ36, h36, hf⟩ := bd_s hf
      replace hf := bt_s hf
      refine gVv (As := [.ref (q 15)]) (rest := []) C hw (tX5_remember h36) (cwV 1 hts gX10_crown_X5_remember rfl rfl rfl (by decide +kernel) ⟨Nat.le_of_ble_eq_true rfl, Nat.le_of_ble_eq_true rfl⟩) 5 18 rfl rfl rfl hl.1 rfl (Nat.le_of_ble_eq_true rfl) dX10_crown_36 (fun H locs hw => ?_)
      refine lv_aload_n hx hb dX10_crown_39 rfl (lv_at hl 0 rfl) ?_
      refine va_get (D := D) (ci := 10) (v := .ref (q 15)) (C := RX10) (T := TX10) (N := 13) hx hb hts (fun _ h => List.mem_cons_of_mem _ (List.mem_append_left _ (List.mem_append_left _ (List.mem_append_left _ (List.mem_append_right _ h))))) hown hK hw.1 0 rfl rfl 3 (by decide) (hts (.fieldLink RX10 31 "EggThrones" "now" "LEggThrones$Morning;") (List.mem_of_getElem? (i := 3) rfl)) (fun _ h9 => h9) rfl dX10_crown_40 ?_
      refine lv_iload_n hx hb dX10_crown_43 rfl (lv_at hl 1 rfl) ?_
      obtain ⟨σ44, h44, hf⟩ := bd_s hf
      replace hf := bt_s hf
      refine gVv (As := [.int (zI x1)]) (rest := []) C hw (tX4_becomeKing h44) (cwV 1 hts gX10_crown_X4_becomeKing rfl rfl rfl (by decide +kernel) ⟨Nat.le_of_ble_eq_true rfl, Nat.le_of_ble_eq_true rfl⟩) 4 15 rfl rfl rfl hl.1 rfl (Nat.le_of_ble_eq_true rfl) dX10_crown_44 (fun H locs hw => ?_)
      refine lv_aload_n hx hb dX10_crown_47 rfl (lv_at hl 0 rfl) ?_
      refine va_get (D := D) (ci := 10) (v := .ref (q 15)) (C := RX10) (T := TX10) (N := 13) hx hb hts (fun _ h => List.mem_cons_of_mem _ (List.mem_append_left _ (List.mem_append_left _ (List.mem_append_left _ (List.mem_append_right _ h))))) hown hK hw.1 0 rfl rfl 3 (by decide) (hts (.fieldLink RX10 31 "EggThrones" "now" "LEggThrones$Morning;") (List.mem_of_getElem? (i := 3) rfl)) (fun _ h9 => h9) rfl dX10_crown_48 ?_
      refine va_getN (D := D) (ci := 4) (v := .int (zI (σ44.1 17))) (C := RX4) (T := TX4) (N := 9) hx hb hts (fun _ h => List.mem_cons_of_mem _ (List.mem_append_left _ (List.mem_append_left _ (List.mem_append_right _ h)))) hown hK hw.1 15 rfl rfl 4 (by decide) (va_Nw.use rfl (hN (.fieldLinkNest "EggThrones" 148 "EggThrones$Morning" "left" "I" "EggThrones") (by decide +kernel))) (fun _ h9 => h9) rfl dX10_crown_51 ?_
      cases hf
      exact hret H locs ls 54 dX10_crown_54 hw
    · rw [if_pos c22] at hf
      refine zv_ldc hx hb (-1000000003) (by decide +kernel) hown (hts (.constant RX10 219 (-1000000003)) (List.mem_of_getElem? (i := 4) rfl)) dX10_crown_25 ?_
      cases hf
      exact hret H locs ls 27 dX10_crown_27 hw
  · rw [if_pos c8] at hf
    refine zv_ldc hx hb (-1000000001) (by decide +kernel) hown (hts (.constant RX10 175 (-1000000001)) (List.mem_of_getElem? (i := 2) rfl)) dX10_crown_11 ?_
    cases hf
    exact hret H locs ls 13 dX10_crown_13 hw
set_option maxHeartbeats 4000000 in
set_option maxRecDepth 100000 in
theorem tX10_crown {l : Launch} {D : va_G} {A : Nat → Prop} {cI cZ : ClassId} {q : Nat → Nat} {σ : St} {x1 : Int} {r : Int} {τ : St} (hf : pX10_crown σ x1 = some (r, τ)) : Met l yX10_crown wsX10_crown rmX10_crown (va_Pc [.ref (q 0), .int (zI x1)] (CX D (TY cI cZ) A (wE q cI cZ σ))) (QI D (TY cI cZ) A (wE q cI cZ τ) (zI r)) 0 0 A := by
  refine opn (cc := cX10_crown) (maxL := 2) (ret := (some .int)) (by decide) rfl (Nat.le_of_ble_eq_true rfl) (fun p e s m below meth c C ls hw hl => ?_)
  have hl : lv_has ls 2 [(0, .ref (q 0)), (1, .int (zI x1))] := hl
  rw [pX10_crown] at hf
  exact wX10_crown_0 C (rtI C) σ x1 _ _ ls hw (lv_sub hl [0, 1] rfl) hf
abbrev rmX11_canCrown : Room := { frames := 1, cells := 0, slots := 0, locals := 21 }
set_option maxHeartbeats 4000000 in
set_option maxRecDepth 100000 in
theorem wX11_canCrown_0 {p : Program} {l : Launch} {e : Env} {s : State} {m : MethodId} {args : Array Value} {below : List Frame} {meth : Method} {c : Code} {D : va_G} {A : Nat → Prop} {q : Nat → Nat} {cI cZ : ClassId} {Q : State → Prop} {σ : St} {r : Int} (C : Cx p s m args meth c D (TY cI cZ) cX11_canCrown (some .boolean) 2 wsX11_canCrown RX11) (hret : RtZ p l e rmX11_canCrown s m args below meth c D A cX11_canCrown Q (wM q cI cZ σ) (zI r)) :
    ∀ (x1 : Int) (H : Heap) (locs : List Loc) (ls : Array Slot), Wd D A s (wM q cI cZ σ) H locs → lv_has ls 2 [(0, .ref (q 0)), (1, .int (zI x1))] → pX11_canCrown_0 σ x1 = some r → W p l e rmX11_canCrown s m args below meth c H locs 0 0 Q (F0 m 0 ls []) := by
  obtain ⟨hx, hb, hr, hml, hown, hts, hlk, hK, hN⟩ := id C
  intro x1 H locs ls hw hl hf
  rw [pX11_canCrown_0] at hf
  refine lv_aload_n hx hb dX11_canCrown_0 rfl (lv_at hl 0 rfl) ?_
  refine va_get (D := D) (ci := 11) (v := .ref (q 6)) (C := RX11) (T := TX11) (N := 40) hx hb hts (fun _ h => List.mem_cons_of_mem _ (List.mem_append_right _ h)) hown hK hw.1 0 rfl rfl 9 (by decide) (hts (.fieldLink RX11 25 "EggThronesModel" "now" "[I") (List.mem_of_getElem? (i := 1) rfl)) (fun _ h9 => h9) rfl dX11_canCrown_1 ?_
  refine lv_iload_n hx hb dX11_canCrown_4 rfl (lv_at hl 1 rfl) ?_
  obtain ⟨hi5, hf⟩ := gd_s hf
  refine zv_iald (D := D) hx hb hK hw.1 6 0 rfl rfl hi5 (by decide) dX11_canCrown_5 ?_
  refine lv_iconst (v := zI 2) hx hb dX11_canCrown_6 rfl ?_
  obtain ⟨hg7, hf⟩ := gd_s hf
  refine zv_icmp_ne (tgt := 21) hx hb ⟨hg7, by decide⟩ dX11_canCrown_7 (by decide) (fun (c7 : ¬ ((σ.2 5 (Int.toNat x1)) = 2)) => ?_) (fun (c7 : (σ.2 5 (Int.toNat x1)) = 2) => ?_)
  · rw [if_neg c7] at hf
    refine lv_iconst (v := zI 0) hx hb dX11_canCrown_21 rfl ?_
    cases hf
    exact hret H locs ls 22 dX11_canCrown_22 (by decide +kernel) hw
  · rw [if_pos c7] at hf
    refine lv_aload_n hx hb dX11_canCrown_10 rfl (lv_at hl 0 rfl) ?_
    obtain ⟨r11, h11, hf⟩ := bd_s hf
    replace hf := bt_s hf
    refine gVi (As := []) (rest := []) C hw (tX11_king h11) (cwV 0 hts gX11_canCrown_X11_king rfl rfl rfl (by decide +kernel) ⟨Nat.le_of_ble_eq_true rfl, Nat.le_of_ble_eq_true rfl⟩) 11 0 rfl rfl rfl hl.1 rfl (Nat.le_of_ble_eq_true rfl) dX11_canCrown_11 (fun H locs hw => ?_)
    obtain ⟨hg14, hf⟩ := gd_s hf
    refine zv_if_ge (tgt := 21) hx hb hg14 dX11_canCrown_14 (by decide) (fun (c14 : 0 ≤ r11) => ?_) (fun (c14 : ¬ (0 ≤ r11)) => ?_)
    · rw [if_pos c14] at hf
      refine lv_iconst (v := zI 0) hx hb dX11_canCrown_21 rfl ?_
      cases hf
      exact hret H locs ls 22 dX11_canCrown_22 (by decide +kernel) hw
    · rw [if_neg c14] at hf
      refine lv_iconst (v := zI 1) hx hb dX11_canCrown_17 rfl ?_
      refine lv_goto (tgt := 22) hx hb dX11_canCrown_18 (by decide) ?_
      cases hf
      exact hret H locs ls 22 dX11_canCrown_22 (by decide +kernel) hw
set_option maxHeartbeats 4000000 in
set_option maxRecDepth 100000 in
theorem tX11_canCrown {l : Launch} {D : va_G} {A : Nat → Prop} {cI cZ : ClassId} {q : Nat → Nat} {σ : St} {x1 : Int} {r : Int} (hf : pX11_canCrown σ x1 = some r) : Met l yX11_canCrown wsX11_canCrown rmX11_canCrown (va_Pc [.ref (q 0), .int (zI x1)] (CX D (TY cI cZ) A (wM q cI cZ σ))) (QI D (TY cI cZ) A (wM q cI cZ σ) (zI r)) 0 0 A := by
  refine opn (cc := cX11_canCrown) (maxL := 2) (ret := (some .boolean)) (by decide) rfl (Nat.le_of_ble_eq_true rfl) (fun p e s m below meth c C ls hw hl => ?_)
  have hl : lv_has ls 2 [(0, .ref (q 0)), (1, .int (zI x1))] := hl
  rw [pX11_canCrown] at hf
  exact wX11_canCrown_0 C (rtZ C) x1 _ _ ls hw (lv_sub hl [0, 1] rfl) hf
abbrev rmX11_crownNow : Room := { frames := 3, cells := 0, slots := 0, locals := 66 }
set_option maxHeartbeats 4000000 in
set_option maxRecDepth 100000 in
theorem wX11_crownNow_0 {p : Program} {l : Launch} {e : Env} {s : State} {m : MethodId} {args : Array Value} {below : List Frame} {meth : Method} {c : Code} {D : va_G} {A : Nat → Prop} {q : Nat → Nat} {cI cZ : ClassId} {Q : State → Prop} {τ : St} (C : Cx p s m args meth c D (TY cI cZ) cX11_crownNow none 2 wsX11_crownNow RX11) (hret : RtV p l e rmX11_crownNow s m args below meth c D A cX11_crownNow Q (wM q cI cZ τ)) :
    ∀ (σ : St) (x1 : Int) (H : Heap) (locs : List Loc) (ls : Array Slot), Wd D A s (wM q cI cZ σ) H locs → lv_has ls 2 [(0, .ref (q 0)), (1, .int (zI x1))] → pX11_crownNow_0 σ x1 = some τ → W p l e rmX11_crownNow s m args below meth c H locs 0 0 Q (F0 m 0 ls []) := by
  obtain ⟨hx, hb, hr, hml, hown, hts, hlk, hK, hN⟩ := id C
  intro σ x1 H locs ls hw hl hf
  rw [pX11_crownNow_0] at hf
  refine lv_aload_n hx hb dX11_crownNow_0 rfl (lv_at hl 0 rfl) ?_
  refine va_get (D := D) (ci := 11) (v := .ref (q 6)) (C := RX11) (T := TX11) (N := 40) hx hb hts (fun _ h => List.mem_cons_of_mem _ (List.mem_append_right _ h)) hown hK hw.1 0 rfl rfl 9 (by decide) (hts (.fieldLink RX11 25 "EggThronesModel" "now" "[I") (List.mem_of_getElem? (i := 1) rfl)) (fun _ h9 => h9) rfl dX11_crownNow_1 ?_
  refine lv_iload_n hx hb dX11_crownNow_4 rfl (lv_at hl 1 rfl) ?_
  refine lv_iconst (v := zI 3) hx hb dX11_crownNow_5 rfl ?_
  obtain ⟨hi6, hf⟩ := gd_s hf
  refine zv_iast (D := D) hx hb hK hw.1 hw.2.1 hw.2.2 6 0 rfl rfl hi6 (by decide) dX11_crownNow_6 (fun H locs hP hD hS => ?_)
  have hw : Wd D A s (wM q cI cZ (sA σ 5 (va_up (σ.2 5) (Int.toNat x1) 3))) H locs := wdaM_5 hP hD hS
  obtain ⟨σ6, e6, hf⟩ := nm_s hf
  replace hf := bt_s hf
  rw [← e6] at hw
  refine lv_aload_n hx hb dX11_crownNow_7 rfl (lv_at hl 0 rfl) ?_
  refine va_get (D := D) (ci := 11) (v := .ref (q 6)) (C := RX11) (T := TX11) (N := 40) hx hb hts (fun _ h => List.mem_cons_of_mem _ (List.mem_append_right _ h)) hown hK hw.1 0 rfl rfl 9 (by decide) (hts (.fieldLink RX11 25 "EggThronesModel" "now" "[I") (List.mem_of_getElem? (i := 1) rfl)) (fun _ h9 => h9) rfl dX11_crownNow_8 ?_
  refine lv_bipush (v := zI 15) hx hb dX11_crownNow_11 (by decide +kernel) ?_
  refine lv_aload_n hx hb dX11_crownNow_13 rfl (lv_at hl 0 rfl) ?_
  refine lv_iload_n hx hb dX11_crownNow_14 rfl (lv_at hl 1 rfl) ?_
  obtain ⟨r15, h15, hf⟩ := bd_s hf
  replace hf := bt_s hf
  refine gVi (As := [.int (zI x1)]) (rest := [.int (zI 15), .ref (q 6)]) C hw (tX11_reign h15) (cwV 1 hts gX11_crownNow_X11_reign rfl rfl rfl (by decide +kernel) ⟨Nat.le_of_ble_eq_true rfl, Nat.le_of_ble_eq_true rfl⟩) 11 0 rfl rfl rfl hl.1 rfl (Nat.le_of_ble_eq_true rfl) dX11_crownNow_15 (fun H locs hw => ?_)
  refine zv_iast (D := D) hx hb hK hw.1 hw.2.1 hw.2.2 6 0 rfl rfl (by decide) (by decide) dX11_crownNow_18 (fun H locs hP hD hS => ?_)
  have hw : Wd D A s (wM q cI cZ (sA σ6 5 (va_up (σ6.2 5) 15 r15))) H locs := wdaM_5 hP hD hS
  obtain ⟨σ18, e18, hf⟩ := nm_s hf
  replace hf := bt_s hf
  rw [← e18] at hw
  cases hf
  exact hret H locs ls 19 dX11_crownNow_19 hw
set_option maxHeartbeats 4000000 in
set_option maxRecDepth 100000 in
theorem tX11_crownNow {l : Launch} {D : va_G} {A : Nat → Prop} {cI cZ : ClassId} {q : Nat → Nat} {σ : St} {x1 : Int} {τ : St} (hf : pX11_crownNow σ x1 = some τ) : Met l yX11_crownNow wsX11_crownNow rmX11_crownNow (va_Pc [.ref (q 0), .int (zI x1)] (CX D (TY cI cZ) A (wM q cI cZ σ))) (QV D (TY cI cZ) A (wM q cI cZ τ)) 0 0 A := by
  refine opn (cc := cX11_crownNow) (maxL := 2) (ret := none) (by decide) rfl (Nat.le_of_ble_eq_true rfl) (fun p e s m below meth c C ls hw hl => ?_)
  have hl : lv_has ls 2 [(0, .ref (q 0)), (1, .int (zI x1))] := hl
  rw [pX11_crownNow] at hf
  exact wX11_crownNow_0 C (rtV C) σ x1 _ _ ls hw (lv_sub hl [0, 1] rfl) hf
abbrev rmX11_crown : Room := { frames := 4, cells := 0, slots := 0, locals := 87 }
set_option maxHeartbeats 4000000 in
set_option maxRecDepth 100000 in
theorem wX11_crown_0 {p : Program} {l : Launch} {e : Env} {s : State} {m : MethodId} {args : Array Value} {below : List Frame} {meth : Method} {c : Code} {D : va_G} {A : Nat → Prop} {q : Nat → Nat} {cI cZ : ClassId} {Q : State → Prop} {r : Int} {τ : St} (C : Cx p s m args meth c D (TY cI cZ) cX11_crown (some .int) 2 wsX11_crown RX11) (hret : RtI p l e rmX11_crown s m args below meth c D A cX11_crown Q (wM q cI cZ τ) (zI r)) :
    ∀ (σ : St) (x1 : Int) (H : Heap) (locs : List Loc) (ls : Array Slot), Wd D A s (wM q cI cZ σ) H locs → lv_has ls 2 [(0, .ref (q 0)), (1, .int (zI x1))] → pX11_crown_0 σ x1 = some (r, τ) → W p l e rmX11_crown s m args below meth c H locs 0 0 Q (F0 m 0 ls []) := by
  obtain ⟨hx, hb, hr, hml, hown, hts, hlk, hK, hN⟩ := id C
  intro σ x1 H locs ls hw hl hf
  rw [pX11_crown_0] at hf
  refine lv_aload_n hx hb dX11_crown_0 rfl (lv_at hl 0 rfl) ?_
  refine lv_iload_n hx hb dX11_crown_1 rfl (lv_at hl 1 rfl) ?_
  obtain ⟨r2, h2, hf⟩ := bd_s hf
  replace hf := bt_s hf
  refine gVi (As := [.int (zI x1)]) (rest := []) C hw (tX11_isEgg h2) (cwV 1 hts gX11_crown_X11_isEgg rfl rfl rfl (by decide +kernel) ⟨Nat.le_of_ble_eq_true rfl, Nat.le_of_ble_eq_true rfl⟩) 11 0 rfl rfl rfl hl.1 rfl (Nat.le_of_ble_eq_true rfl) dX11_crown_2 (fun H locs hw => ?_)
  obtain ⟨hg5, hf⟩ := gd_s hf
  refine zv_if_ne (tgt := 11) hx hb hg5 dX11_crown_5 (by decide) (fun (c5 : ¬ (r2 = 0)) => ?_) (fun (c5 : r2 = 0) => ?_)
  · rw [if_neg c5] at hf
    refine lv_aload_n hx hb dX11_crown_11 rfl (lv_at hl 0 rfl) ?_
    refine lv_iload_n hx hb dX11_crown_12 rfl (lv_at hl 1 rfl) ?_
    obtain ⟨r13, h13, hf⟩ := bd_s hf
    replace hf := bt_s hf
    refine gVi (As := [.int (zI x1)]) (rest := []) C hw (tX11_canCrown h13) (cwV 1 hts gX11_crown_X11_canCrown rfl rfl rfl (by decide +kernel) ⟨Nat.le_of_ble_eq_true rfl, Nat.le_of_ble_eq_true rfl⟩) 11 0 rfl rfl rfl hl.1 rfl (Nat.le_of_ble_eq_true rfl) dX11_crown_13 (fun H locs hw => ?_)
    obtain ⟨hg16, hf⟩ := gd_s hf
    refine zv_if_ne (tgt := 22) hx hb hg16 dX11_crown_16 (by decide) (fun (c16 : ¬ (r13 = 0)) => ?_) (fun (c16 : r13 = 0) => ?_)
    · rw [if_neg c16] at hf
      refine lv_aload_n hx hb dX11_crown_22 rfl (lv_at hl 0 rfl) ?_
      obtain ⟨σ23, h23, hf⟩ := bd_s hf
      replace hf := bt_s hf
      refine gVv (As := []) (rest := []) C hw (tX11_remember h23) (cwV 0 hts gX11_crown_X11_remember rfl rfl rfl (by decide +kernel) ⟨Nat.le_of_ble_eq_true rfl, Nat.le_of_ble_eq_true rfl⟩) 11 0 rfl rfl rfl hl.1 rfl (Nat.le_of_ble_eq_true rfl) dX11_crown_23 (fun H locs hw => ?_)
      refine lv_aload_n hx hb dX11_crown_26 rfl (lv_at hl 0 rfl) ?_
      refine lv_iload_n hx hb dX11_crown_27 rfl (lv_at hl 1 rfl) ?_
      obtain ⟨σ28, h28, hf⟩ := bd_s hf
      replace hf := bt_s hf
      refine gVv (As := [.int (zI x1)]) (rest := []) C hw (tX11_crownNow h28) (cwV 1 hts gX11_crown_X11_crownNow rfl rfl rfl (by decide +kernel) ⟨Nat.le_of_ble_eq_true rfl, Nat.le_of_ble_eq_true rfl⟩) 11 0 rfl rfl rfl hl.1 rfl (Nat.le_of_ble_eq_true rfl) dX11_crown_28 (fun H locs hw => ?_)
      refine lv_aload_n hx hb dX11_crown_31 rfl (lv_at hl 0 rfl) ?_
      refine va_get (D := D) (ci := 11) (v := .ref (q 6)) (C := RX11) (T := TX11) (N := 40) hx hb hts (fun _ h => List.mem_cons_of_mem _ (List.mem_append_right _ h)) hown hK hw.1 0 rfl rfl 9 (by decide) (hts (.fieldLink RX11 25 "EggThronesModel" "now" "[I") (List.mem_of_getElem? (i := 3) rfl)) (fun _ h9 => h9) rfl dX11_crown_32 ?_
      refine lv_bipush (v := zI 15) hx hb dX11_crown_35 (by decide +kernel) ?_
      refine zv_iald (D := D) hx hb hK hw.1 6 0 rfl rfl (by decide) (by decide) dX11_crown_37 ?_
      cases hf
      exact hret H locs ls 38 dX11_crown_38 hw
    · rw [if_pos c16] at hf
      refine zv_ldc hx hb (-1000000003) (by decide +kernel) hown (hts (.constant RX11 206 (-1000000003)) (List.mem_of_getElem? (i := 2) rfl)) dX11_crown_19 ?_
      cases hf
      exact hret H locs ls 21 dX11_crown_21 hw
  · rw [if_pos c5] at hf
    refine zv_ldc hx hb (-1000000001) (by decide +kernel) hown (hts (.constant RX11 200 (-1000000001)) (List.mem_of_getElem? (i := 1) rfl)) dX11_crown_8 ?_
    cases hf
    exact hret H locs ls 10 dX11_crown_10 hw
set_option maxHeartbeats 4000000 in
set_option maxRecDepth 100000 in
theorem tX11_crown {l : Launch} {D : va_G} {A : Nat → Prop} {cI cZ : ClassId} {q : Nat → Nat} {σ : St} {x1 : Int} {r : Int} {τ : St} (hf : pX11_crown σ x1 = some (r, τ)) : Met l yX11_crown wsX11_crown rmX11_crown (va_Pc [.ref (q 0), .int (zI x1)] (CX D (TY cI cZ) A (wM q cI cZ σ))) (QI D (TY cI cZ) A (wM q cI cZ τ) (zI r)) 0 0 A := by
  refine opn (cc := cX11_crown) (maxL := 2) (ret := (some .int)) (by decide) rfl (Nat.le_of_ble_eq_true rfl) (fun p e s m below meth c C ls hw hl => ?_)
  have hl : lv_has ls 2 [(0, .ref (q 0)), (1, .int (zI x1))] := hl
  rw [pX11_crown] at hf
  exact wX11_crown_0 C (rtI C) σ x1 _ _ ls hw (lv_sub hl [0, 1] rfl) hf
abbrev rmX10_cutToast : Room := { frames := 3, cells := 0, slots := 0, locals := 105 }
set_option maxHeartbeats 4000000 in
set_option maxRecDepth 100000 in
theorem wX10_cutToast_0 {p : Program} {l : Launch} {e : Env} {s : State} {m : MethodId} {args : Array Value} {below : List Frame} {meth : Method} {c : Code} {D : va_G} {A : Nat → Prop} {q : Nat → Nat} {cI cZ : ClassId} {Q : State → Prop} {r : Int} {τ : St} (C : Cx p s m args meth c D (TY cI cZ) cX10_cutToast (some .int) 2 wsX10_cutToast RX10) (hret : RtI p l e rmX10_cutToast s m args below meth c D A cX10_cutToast Q (wE q cI cZ τ) (zI r)) :
    ∀ (σ : St) (x1 : Int) (H : Heap) (locs : List Loc) (ls : Array Slot), Wd D A s (wE q cI cZ σ) H locs → lv_has ls 2 [(0, .ref (q 0)), (1, .int (zI x1))] → pX10_cutToast_0 σ x1 = some (r, τ) → W p l e rmX10_cutToast s m args below meth c H locs 0 0 Q (F0 m 0 ls []) := by
  obtain ⟨hx, hb, hr, hml, hown, hts, hlk, hK, hN⟩ := id C
  intro σ x1 H locs ls hw hl hf
  rw [pX10_cutToast_0] at hf
  refine lv_iload_n hx hb dX10_cutToast_0 rfl (lv_at hl 1 rfl) ?_
  refine lv_iconst (v := zI 1) hx hb dX10_cutToast_1 rfl ?_
  refine lv_bipush (v := zI 99) hx hb dX10_cutToast_2 (by decide +kernel) ?_
  obtain ⟨r4, h4, hf⟩ := bd_s hf
  replace hf := bt_s hf
  refine gSi (As := [.int (zI x1), .int (zI 1), .int (zI 99)]) (rest := []) C hw (tX10_isWithin h4) (va_cwS 3 hts gX10_cutToast_X10_isWithin rfl rfl rfl (by decide +kernel) ⟨Nat.le_of_ble_eq_true rfl, Nat.le_of_ble_eq_true rfl⟩) rfl hl.1 rfl (Nat.le_of_ble_eq_true rfl) dX10_cutToast_4 (fun H locs hw => ?_)
  obtain ⟨hg7, hf⟩ := gd_s hf
  refine zv_if_ne (tgt := 13) hx hb hg7 dX10_cutToast_7 (by decide) (fun (c7 : ¬ (r4 = 0)) => ?_) (fun (c7 : r4 = 0) => ?_)
  · rw [if_neg c7] at hf
    refine lv_aload_n hx hb dX10_cutToast_13 rfl (lv_at hl 0 rfl) ?_
    refine va_get (D := D) (ci := 10) (v := .ref (q 1)) (C := RX10) (T := TX10) (N := 13) hx hb hts (fun _ h => List.mem_cons_of_mem _ (List.mem_append_left _ (List.mem_append_left _ (List.mem_append_left _ (List.mem_append_right _ h))))) hown hK hw.1 0 rfl rfl 1 (by decide) (hts (.fieldLink RX10 19 "EggThrones" "laid" "LEggThrones$Table;") (List.mem_of_getElem? (i := 2) rfl)) (fun _ h9 => h9) rfl dX10_cutToast_14 ?_
    obtain ⟨r17, h17, hf⟩ := bd_s hf
    replace hf := bt_s hf
    refine gVi (As := []) (rest := []) C hw (tX8_isLaid_c1 h17) (cwV 0 hts gX10_cutToast_X8_isLaid rfl rfl rfl (by decide +kernel) ⟨Nat.le_of_ble_eq_true rfl, Nat.le_of_ble_eq_true rfl⟩) 8 1 rfl rfl rfl hl.1 rfl (Nat.le_of_ble_eq_true rfl) dX10_cutToast_17 (fun H locs hw => ?_)
    obtain ⟨hg20, hf⟩ := gd_s hf
    refine zv_if_ne (tgt := 26) hx hb hg20 dX10_cutToast_20 (by decide) (fun (c20 : ¬ (r17 = 0)) => ?_) (fun (c20 : r17 = 0) => ?_)
    · rw [if_neg c20] at hf
      refine lv_aload_n hx hb dX10_cutToast_26 rfl (lv_at hl 0 rfl) ?_
      refine va_get (D := D) (ci := 10) (v := .ref (q 18)) (C := RX10) (T := TX10) (N := 13) hx hb hts (fun _ h => List.mem_cons_of_mem _ (List.mem_append_left _ (List.mem_append_left _ (List.mem_append_left _ (List.mem_append_right _ h))))) hown hK hw.1 0 rfl rfl 4 (by decide) (hts (.fieldLink RX10 38 "EggThrones" "past" "LEggThrones$Past;") (List.mem_of_getElem? (i := 4) rfl)) (fun _ h9 => h9) rfl dX10_cutToast_27 ?_
      refine lv_aload_n hx hb dX10_cutToast_30 rfl (lv_at hl 0 rfl) ?_
      refine va_get (D := D) (ci := 10) (v := .ref (q 15)) (C := RX10) (T := TX10) (N := 13) hx hb hts (fun _ h => List.mem_cons_of_mem _ (List.mem_append_left _ (List.mem_append_left _ (List.mem_append_left _ (List.mem_append_right _ h))))) hown hK hw.1 0 rfl rfl 3 (by decide) (hts (.fieldLink RX10 31 "EggThrones" "now" "LEggThrones$Morning;") (List.mem_of_getElem? (i := 5) rfl)) (fun _ h9 => h9) rfl dX10_cutToast_31 ?_
      obtain ⟨σ34, h34, hf⟩ := bd_s hf
      replace hf := bt_s hf
      refine gVv (As := [.ref (q 15)]) (rest := []) C hw (tX5_remember h34) (cwV 1 hts gX10_cutToast_X5_remember rfl rfl rfl (by decide +kernel) ⟨Nat.le_of_ble_eq_true rfl, Nat.le_of_ble_eq_true rfl⟩) 5 18 rfl rfl rfl hl.1 rfl (Nat.le_of_ble_eq_true rfl) dX10_cutToast_34 (fun H locs hw => ?_)
      refine lv_aload_n hx hb dX10_cutToast_37 rfl (lv_at hl 0 rfl) ?_
      refine va_get (D := D) (ci := 10) (v := .ref (q 15)) (C := RX10) (T := TX10) (N := 13) hx hb hts (fun _ h => List.mem_cons_of_mem _ (List.mem_append_left _ (List.mem_append_left _ (List.mem_append_left _ (List.mem_append_right _ h))))) hown hK hw.1 0 rfl rfl 3 (by decide) (hts (.fieldLink RX10 31 "EggThrones" "now" "LEggThrones$Morning;") (List.mem_of_getElem? (i := 5) rfl)) (fun _ h9 => h9) rfl dX10_cutToast_38 ?_
      refine lv_sipush (v := zI 999) hx hb dX10_cutToast_41 (by decide +kernel) ?_
      refine lv_aload_n hx hb dX10_cutToast_44 rfl (lv_at hl 0 rfl) ?_
      refine va_get (D := D) (ci := 10) (v := .ref (q 15)) (C := RX10) (T := TX10) (N := 13) hx hb hts (fun _ h => List.mem_cons_of_mem _ (List.mem_append_left _ (List.mem_append_left _ (List.mem_append_left _ (List.mem_append_right _ h))))) hown hK hw.1 0 rfl rfl 3 (by decide) (hts (.fieldLink RX10 31 "EggThrones" "now" "LEggThrones$Morning;") (List.mem_of_getElem? (i := 5) rfl)) (fun _ h9 => h9) rfl dX10_cutToast_45 ?_
      refine va_getN (D := D) (ci := 4) (v := .int (zI (σ34.1 18))) (C := RX4) (T := TX4) (N := 9) hx hb hts (fun _ h => List.mem_cons_of_mem _ (List.mem_append_left _ (List.mem_append_left _ (List.mem_append_right _ h)))) hown hK hw.1 15 rfl rfl 5 (by decide) (va_Nw.use rfl (hN (.fieldLinkNest "EggThrones" 133 "EggThrones$Morning" "soldiers" "I" "EggThrones") (by decide +kernel))) (fun _ h9 => h9) rfl dX10_cutToast_48 ?_
      refine lv_iload_n hx hb dX10_cutToast_51 rfl (lv_at hl 1 rfl) ?_
      refine zv_iadd hx hb dX10_cutToast_52 ?_
      obtain ⟨hg53, hf⟩ := gd_s hf
      refine zv_mmin (rest := [.ref (q 15)]) hx hb (hml.trans hl.1.symm) hown (hts (.methodLink RX10 243 Lib.Math.min.name) (List.mem_of_getElem? (i := 6) rfl)) (hts (.static Lib.Math.min.name) (List.mem_of_getElem? (i := 7) rfl)) (hts (.initialized "java/lang/Math") (List.mem_of_getElem? (i := 8) rfl)) (hts (.code Lib.Math.min.name Lib.Math.min.code 2 (some .int)) (List.mem_of_getElem? (i := 9) rfl)) (Nat.le_of_ble_eq_true rfl) (Nat.le_of_ble_eq_true rfl) (Nat.zero_le _) (Nat.zero_le _) ⟨by decide, hg53⟩ dX10_cutToast_53 ?_
      refine va_putN (D := D) (ci := 4) (v := .int (zI (min 999 ((σ34.1 18) + x1)))) (ty := .int) (C := RX4) (T := TX4) (N := 9) hx hb hts (fun _ h => List.mem_cons_of_mem _ (List.mem_append_left _ (List.mem_append_left _ (List.mem_append_right _ h)))) tyX4 tyX4_ok nmX4 hown hK hw.1 hw.2.1 hw.2.2 15 rfl rfl 5 (by decide) (va_Nw.use rfl (hN (.fieldLinkNest "EggThrones" 133 "EggThrones$Morning" "soldiers" "I" "EggThrones") (by decide +kernel))) (fun _ h9 => h9) rfl (by decide +kernel) rfl rfl (Nat.le_of_ble_eq_true rfl) dX10_cutToast_56 (fun H locs hP hD hS => ?_)
      have hw : Wd D A s (wE q cI cZ (sI σ34 18 (min 999 ((σ34.1 18) + x1)))) H locs := wdiE_18 hP hD hS
      obtain ⟨σ56, e56, hf⟩ := nm_s hf
      replace hf := bt_s hf
      rw [← e56] at hw
      refine lv_aload_n hx hb dX10_cutToast_59 rfl (lv_at hl 0 rfl) ?_
      refine va_get (D := D) (ci := 10) (v := .ref (q 15)) (C := RX10) (T := TX10) (N := 13) hx hb hts (fun _ h => List.mem_cons_of_mem _ (List.mem_append_left _ (List.mem_append_left _ (List.mem_append_left _ (List.mem_append_right _ h))))) hown hK hw.1 0 rfl rfl 3 (by decide) (hts (.fieldLink RX10 31 "EggThrones" "now" "LEggThrones$Morning;") (List.mem_of_getElem? (i := 5) rfl)) (fun _ h9 => h9) rfl dX10_cutToast_60 ?_
      refine va_getN (D := D) (ci := 4) (v := .int (zI (σ56.1 18))) (C := RX4) (T := TX4) (N := 9) hx hb hts (fun _ h => List.mem_cons_of_mem _ (List.mem_append_left _ (List.mem_append_left _ (List.mem_append_right _ h)))) hown hK hw.1 15 rfl rfl 5 (by decide) (va_Nw.use rfl (hN (.fieldLinkNest "EggThrones" 133 "EggThrones$Morning" "soldiers" "I" "EggThrones") (by decide +kernel))) (fun _ h9 => h9) rfl dX10_cutToast_63 ?_
      cases hf
      exact hret H locs ls 66 dX10_cutToast_66 hw
    · rw [if_pos c20] at hf
      refine zv_ldc hx hb (-1000000003) (by decide +kernel) hown (hts (.constant RX10 219 (-1000000003)) (List.mem_of_getElem? (i := 3) rfl)) dX10_cutToast_23 ?_
      cases hf
      exact hret H locs ls 25 dX10_cutToast_25 hw
  · rw [if_pos c7] at hf
    refine zv_ldc hx hb (-1000000002) (by decide +kernel) hown (hts (.constant RX10 95 (-1000000002)) (List.mem_of_getElem? (i := 1) rfl)) dX10_cutToast_10 ?_
    cases hf
    exact hret H locs ls 12 dX10_cutToast_12 hw
set_option maxHeartbeats 4000000 in
set_option maxRecDepth 100000 in
theorem tX10_cutToast {l : Launch} {D : va_G} {A : Nat → Prop} {cI cZ : ClassId} {q : Nat → Nat} {σ : St} {x1 : Int} {r : Int} {τ : St} (hf : pX10_cutToast σ x1 = some (r, τ)) : Met l yX10_cutToast wsX10_cutToast rmX10_cutToast (va_Pc [.ref (q 0), .int (zI x1)] (CX D (TY cI cZ) A (wE q cI cZ σ))) (QI D (TY cI cZ) A (wE q cI cZ τ) (zI r)) 0 0 A := by
  refine opn (cc := cX10_cutToast) (maxL := 2) (ret := (some .int)) (by decide) rfl (Nat.le_of_ble_eq_true rfl) (fun p e s m below meth c C ls hw hl => ?_)
  have hl : lv_has ls 2 [(0, .ref (q 0)), (1, .int (zI x1))] := hl
  rw [pX10_cutToast] at hf
  exact wX10_cutToast_0 C (rtI C) σ x1 _ _ ls hw (lv_sub hl [0, 1] rfl) hf
abbrev rmX11_cutToast : Room := { frames := 1, cells := 0, slots := 0, locals := 25 }
set_option maxHeartbeats 4000000 in
set_option maxRecDepth 100000 in
theorem wX11_cutToast_65 {p : Program} {l : Launch} {e : Env} {s : State} {m : MethodId} {args : Array Value} {below : List Frame} {meth : Method} {c : Code} {D : va_G} {A : Nat → Prop} {q : Nat → Nat} {cI cZ : ClassId} {Q : State → Prop} {r : Int} {τ : St} (C : Cx p s m args meth c D (TY cI cZ) cX11_cutToast (some .int) 2 wsX11_cutToast RX11) (hret : RtI p l e rmX11_cutToast s m args below meth c D A cX11_cutToast Q (wM q cI cZ τ) (zI r)) :
    ∀ (σ : St) (t1 : Int) (t2 : Int) (H : Heap) (locs : List Loc) (ls : Array Slot), Wd D A s (wM q cI cZ σ) H locs → lv_has ls 2 [(0, .ref (q 0))] → pX11_cutToast_65 σ t1 t2 = some (r, τ) → W p l e rmX11_cutToast s m args below meth c H locs 0 0 Q (F0 m 65 ls [.int (zI t2), .int (zI t1), .ref (q 6)]) := by
  obtain ⟨hx, hb, hr, hml, hown, hts, hlk, hK, hN⟩ := id C
  intro σ t1 t2 H locs ls hw hl hf
  rw [pX11_cutToast_65] at hf
  obtain ⟨hi65, hf⟩ := gd_s hf
  refine zv_iast (D := D) hx hb hK hw.1 hw.2.1 hw.2.2 6 0 rfl rfl hi65 (by decide) dX11_cutToast_65 (fun H locs hP hD hS => ?_)
  have hw : Wd D A s (wM q cI cZ (sA σ 5 (va_up (σ.2 5) (Int.toNat t1) t2))) H locs := wdaM_5 hP hD hS
  obtain ⟨σ65, e65, hf⟩ := nm_s hf
  replace hf := bt_s hf
  rw [← e65] at hw
  refine lv_aload_n hx hb dX11_cutToast_66 rfl (lv_at hl 0 rfl) ?_
  refine va_get (D := D) (ci := 11) (v := .ref (q 6)) (C := RX11) (T := TX11) (N := 40) hx hb hts (fun _ h => List.mem_cons_of_mem _ (List.mem_append_right _ h)) hown hK hw.1 0 rfl rfl 9 (by decide) (hts (.fieldLink RX11 25 "EggThronesModel" "now" "[I") (List.mem_of_getElem? (i := 5) rfl)) (fun _ h9 => h9) rfl dX11_cutToast_67 ?_
  refine lv_bipush (v := zI 14) hx hb dX11_cutToast_70 (by decide +kernel) ?_
  refine zv_iald (D := D) hx hb hK hw.1 6 0 rfl rfl (by decide) (by decide) dX11_cutToast_72 ?_
  cases hf
  exact hret H locs ls 73 dX11_cutToast_73 hw
set_option maxHeartbeats 4000000 in
set_option maxRecDepth 100000 in
theorem wX11_cutToast_0 {p : Program} {l : Launch} {e : Env} {s : State} {m : MethodId} {args : Array Value} {below : List Frame} {meth : Method} {c : Code} {D : va_G} {A : Nat → Prop} {q : Nat → Nat} {cI cZ : ClassId} {Q : State → Prop} {r : Int} {τ : St} (C : Cx p s m args meth c D (TY cI cZ) cX11_cutToast (some .int) 2 wsX11_cutToast RX11) (hret : RtI p l e rmX11_cutToast s m args below meth c D A cX11_cutToast Q (wM q cI cZ τ) (zI r)) :
    ∀ (σ : St) (x1 : Int) (H : Heap) (locs : List Loc) (ls : Array Slot), Wd D A s (wM q cI cZ σ) H locs → lv_has ls 2 [(0, .ref (q 0)), (1, .int (zI x1))] → pX11_cutToast_0 σ x1 = some (r, τ) → W p l e rmX11_cutToast s m args below meth c H locs 0 0 Q (F0 m 0 ls []) := by
  obtain ⟨hx, hb, hr, hml, hown, hts, hlk, hK, hN⟩ := id C
  intro σ x1 H locs ls hw hl hf
  rw [pX11_cutToast_0] at hf
  refine lv_iload_n hx hb dX11_cutToast_0 rfl (lv_at hl 1 rfl) ?_
  obtain ⟨hz1, hf⟩ := gd_s hf
  refine zv_i2l hx hb hz1 dX11_cutToast_1 ?_
  refine lv_lconst (v := zL 1) hx hb dX11_cutToast_2 (by decide +kernel) ?_
  refine zv_ldc2 hx hb 99 (by decide +kernel) hown (hts (.constantLong RX11 229 (99)) (List.mem_of_getElem? (i := 1) rfl)) dX11_cutToast_3 ?_
  obtain ⟨r6, h6, hf⟩ := bd_s hf
  replace hf := bt_s hf
  refine gSi (As := [.long (zL x1), .long (zL 1), .long (zL 99)]) (rest := []) C hw (tX11_in h6) (va_cwS 3 hts gX11_cutToast_X11_in rfl rfl rfl (by decide +kernel) ⟨Nat.le_of_ble_eq_true rfl, Nat.le_of_ble_eq_true rfl⟩) rfl hl.1 rfl (Nat.le_of_ble_eq_true rfl) dX11_cutToast_6 (fun H locs hw => ?_)
  obtain ⟨hg9, hf⟩ := gd_s hf
  refine zv_if_ne (tgt := 15) hx hb hg9 dX11_cutToast_9 (by decide) (fun (c9 : ¬ (r6 = 0)) => ?_) (fun (c9 : r6 = 0) => ?_)
  · rw [if_neg c9] at hf
    refine lv_aload_n hx hb dX11_cutToast_15 rfl (lv_at hl 0 rfl) ?_
    refine va_get (D := D) (ci := 11) (v := .int (zI (σ.1 0))) (C := RX11) (T := TX11) (N := 40) hx hb hts (fun _ h => List.mem_cons_of_mem _ (List.mem_append_right _ h)) hown hK hw.1 0 rfl rfl 0 (by decide) (hts (.fieldLink RX11 90 "EggThronesModel" "holds" "I") (List.mem_of_getElem? (i := 3) rfl)) (fun _ h9 => h9) rfl dX11_cutToast_16 ?_
    obtain ⟨hg19, hf⟩ := gd_s hf
    refine zv_if_ne (tgt := 25) hx hb hg19 dX11_cutToast_19 (by decide) (fun (c19 : ¬ ((σ.1 0) = 0)) => ?_) (fun (c19 : (σ.1 0) = 0) => ?_)
    · rw [if_neg c19] at hf
      refine lv_aload_n hx hb dX11_cutToast_25 rfl (lv_at hl 0 rfl) ?_
      obtain ⟨σ26, h26, hf⟩ := bd_s hf
      replace hf := bt_s hf
      refine gVv (As := []) (rest := []) C hw (tX11_remember h26) (cwV 0 hts gX11_cutToast_X11_remember rfl rfl rfl (by decide +kernel) ⟨Nat.le_of_ble_eq_true rfl, Nat.le_of_ble_eq_true rfl⟩) 11 0 rfl rfl rfl hl.1 rfl (Nat.le_of_ble_eq_true rfl) dX11_cutToast_26 (fun H locs hw => ?_)
      refine lv_aload_n hx hb dX11_cutToast_29 rfl (lv_at hl 0 rfl) ?_
      refine va_get (D := D) (ci := 11) (v := .ref (q 6)) (C := RX11) (T := TX11) (N := 40) hx hb hts (fun _ h => List.mem_cons_of_mem _ (List.mem_append_right _ h)) hown hK hw.1 0 rfl rfl 9 (by decide) (hts (.fieldLink RX11 25 "EggThronesModel" "now" "[I") (List.mem_of_getElem? (i := 5) rfl)) (fun _ h9 => h9) rfl dX11_cutToast_30 ?_
      refine lv_bipush (v := zI 14) hx hb dX11_cutToast_33 (by decide +kernel) ?_
      refine lv_aload_n hx hb dX11_cutToast_35 rfl (lv_at hl 0 rfl) ?_
      refine va_get (D := D) (ci := 11) (v := .ref (q 6)) (C := RX11) (T := TX11) (N := 40) hx hb hts (fun _ h => List.mem_cons_of_mem _ (List.mem_append_right _ h)) hown hK hw.1 0 rfl rfl 9 (by decide) (hts (.fieldLink RX11 25 "EggThronesModel" "now" "[I") (List.mem_of_getElem? (i := 5) rfl)) (fun _ h9 => h9) rfl dX11_cutToast_36 ?_
      refine lv_bipush (v := zI 14) hx hb dX11_cutToast_39 (by decide +kernel) ?_
      refine zv_iald (D := D) hx hb hK hw.1 6 0 rfl rfl (by decide) (by decide) dX11_cutToast_41 ?_
      refine lv_iload_n hx hb dX11_cutToast_42 rfl (lv_at hl 1 rfl) ?_
      refine zv_iadd hx hb dX11_cutToast_43 ?_
      refine lv_sipush (v := zI 999) hx hb dX11_cutToast_44 (by decide +kernel) ?_
      obtain ⟨hg47, hf⟩ := gd_s hf
      refine zv_icmp_ge (tgt := 62) hx hb ⟨hg47, by decide⟩ dX11_cutToast_47 (by decide) (fun (c47 : 999 ≤ ((σ26.2 5 14) + x1)) => ?_) (fun (c47 : ¬ (999 ≤ ((σ26.2 5 14) + x1))) => ?_)
      · rw [if_pos c47] at hf
        refine lv_sipush (v := zI 999) hx hb dX11_cutToast_62 (by decide +kernel) ?_
        exact wX11_cutToast_65 C hret σ26 14 999 H locs ls hw (lv_sub hl [0] rfl) hf
      · rw [if_neg c47] at hf
        refine lv_aload_n hx hb dX11_cutToast_50 rfl (lv_at hl 0 rfl) ?_
        refine va_get (D := D) (ci := 11) (v := .ref (q 6)) (C := RX11) (T := TX11) (N := 40) hx hb hts (fun _ h => List.mem_cons_of_mem _ (List.mem_append_right _ h)) hown hK hw.1 0 rfl rfl 9 (by decide) (hts (.fieldLink RX11 25 "EggThronesModel" "now" "[I") (List.mem_of_getElem? (i := 5) rfl)) (fun _ h9 => h9) rfl dX11_cutToast_51 ?_
        refine lv_bipush (v := zI 14) hx hb dX11_cutToast_54 (by decide +kernel) ?_
        refine zv_iald (D := D) hx hb hK hw.1 6 0 rfl rfl (by decide) (by decide) dX11_cutToast_56 ?_
        refine lv_iload_n hx hb dX11_cutToast_57 rfl (lv_at hl 1 rfl) ?_
        refine zv_iadd hx hb dX11_cutToast_58 ?_
        refine lv_goto (tgt := 65) hx hb dX11_cutToast_59 (by decide) ?_
        exact wX11_cutToast_65 C hret σ26 14 ((σ26.2 5 14) + x1) H locs ls hw (lv_sub hl [0] rfl) hf
    · rw [if_pos c19] at hf
      refine zv_ldc hx hb (-1000000003) (by decide +kernel) hown (hts (.constant RX11 206 (-1000000003)) (List.mem_of_getElem? (i := 4) rfl)) dX11_cutToast_22 ?_
      cases hf
      exact hret H locs ls 24 dX11_cutToast_24 hw
  · rw [if_pos c9] at hf
    refine zv_ldc hx hb (-1000000002) (by decide +kernel) hown (hts (.constant RX11 105 (-1000000002)) (List.mem_of_getElem? (i := 2) rfl)) dX11_cutToast_12 ?_
    cases hf
    exact hret H locs ls 14 dX11_cutToast_14 hw
set_option maxHeartbeats 4000000 in
set_option maxRecDepth 100000 in
theorem tX11_cutToast {l : Launch} {D : va_G} {A : Nat → Prop} {cI cZ : ClassId} {q : Nat → Nat} {σ : St} {x1 : Int} {r : Int} {τ : St} (hf : pX11_cutToast σ x1 = some (r, τ)) : Met l yX11_cutToast wsX11_cutToast rmX11_cutToast (va_Pc [.ref (q 0), .int (zI x1)] (CX D (TY cI cZ) A (wM q cI cZ σ))) (QI D (TY cI cZ) A (wM q cI cZ τ) (zI r)) 0 0 A := by
  refine opn (cc := cX11_cutToast) (maxL := 2) (ret := (some .int)) (by decide) rfl (Nat.le_of_ble_eq_true rfl) (fun p e s m below meth c C ls hw hl => ?_)
  have hl : lv_has ls 2 [(0, .ref (q 0)), (1, .int (zI x1))] := hl
  rw [pX11_cutToast] at hf
  exact wX11_cutToast_0 C (rtI C) σ x1 _ _ ls hw (lv_sub hl [0, 1] rfl) hf
abbrev rmX10_draw : Room := { frames := 0, cells := 0, slots := 0, locals := 0 }
set_option maxHeartbeats 4000000 in
set_option maxRecDepth 100000 in
theorem wX10_draw_0 {p : Program} {l : Launch} {e : Env} {s : State} {m : MethodId} {args : Array Value} {below : List Frame} {meth : Method} {c : Code} {D : va_G} {A : Nat → Prop} {q : Nat → Nat} {cI cZ : ClassId} {Q : State → Prop} {r : Int} {τ : St} (C : Cx p s m args meth c D (TY cI cZ) cX10_draw (some .int) 2 wsX10_draw RX10) (hret : RtI p l e rmX10_draw s m args below meth c D A cX10_draw Q (wE q cI cZ τ) (zI r)) :
    ∀ (σ : St) (x1 : Int) (H : Heap) (locs : List Loc) (ls : Array Slot), Wd D A s (wE q cI cZ σ) H locs → lv_has ls 2 [(0, .ref (q 0)), (1, .int (zI x1))] → pX10_draw_0 σ x1 = some (r, τ) → W p l e rmX10_draw s m args below meth c H locs 0 0 Q (F0 m 0 ls []) := by
  obtain ⟨hx, hb, hr, hml, hown, hts, hlk, hK, hN⟩ := id C
  intro σ x1 H locs ls hw hl hf
  rw [pX10_draw_0] at hf
  refine lv_aload_n hx hb dX10_draw_0 rfl (lv_at hl 0 rfl) ?_
  refine lv_aload_n hx hb dX10_draw_1 rfl (lv_at hl 0 rfl) ?_
  refine va_get (D := D) (ci := 10) (v := .int (zI (σ.1 1))) (C := RX10) (T := TX10) (N := 13) hx hb hts (fun _ h => List.mem_cons_of_mem _ (List.mem_append_right _ h)) hown hK hw.1 0 rfl rfl 12 (by decide) (hts (.fieldLink RX10 88 "EggThrones" "drawSeed" "I") (List.mem_of_getElem? (i := 1) rfl)) (fun _ h9 => h9) rfl dX10_draw_2 ?_
  obtain ⟨hz5, hf⟩ := gd_s hf
  refine zv_i2l hx hb hz5 dX10_draw_5 ?_
  refine zv_ldc2 hx hb 1103515245 (by decide +kernel) hown (hts (.constantLong RX10 330 (1103515245)) (List.mem_of_getElem? (i := 2) rfl)) dX10_draw_6 ?_
  refine zv_lmul hx hb dX10_draw_9 ?_
  refine zv_ldc2 hx hb 12345 (by decide +kernel) hown (hts (.constantLong RX10 332 (12345)) (List.mem_of_getElem? (i := 3) rfl)) dX10_draw_10 ?_
  refine zv_ladd hx hb dX10_draw_13 ?_
  refine zv_ldc2 hx hb 2147483647 (by decide +kernel) hown (hts (.constantLong RX10 334 (2147483647)) (List.mem_of_getElem? (i := 4) rfl)) dX10_draw_14 ?_
  refine zv_land hx hb dX10_draw_17 ?_
  refine zv_l2i hx hb dX10_draw_18 ?_
  refine va_put (D := D) (ci := 10) (v := .int (zI (zAndL (((σ.1 1) * 1103515245) + 12345) 2147483647))) (ty := .int) (C := RX10) (T := TX10) (N := 13) hx hb hts (fun _ h => List.mem_cons_of_mem _ (List.mem_append_right _ h)) tyX10 tyX10_ok nmX10 hown hK hw.1 hw.2.1 hw.2.2 0 rfl rfl 12 (by decide) (hts (.fieldLink RX10 88 "EggThrones" "drawSeed" "I") (List.mem_of_getElem? (i := 1) rfl)) (fun _ h9 => h9) rfl (by decide +kernel) rfl rfl (Nat.le_of_ble_eq_true rfl) dX10_draw_19 (fun H locs hP hD hS => ?_)
  have hw : Wd D A s (wE q cI cZ (sI σ 1 (zAndL (((σ.1 1) * 1103515245) + 12345) 2147483647))) H locs := wdiE_1 hP hD hS
  obtain ⟨σ19, e19, hf⟩ := nm_s hf
  replace hf := bt_s hf
  rw [← e19] at hw
  refine lv_iload_n hx hb dX10_draw_22 rfl (lv_at hl 1 rfl) ?_
  obtain ⟨hg23, hf⟩ := gd_s hf
  refine zv_if_le (tgt := 39) hx hb hg23 dX10_draw_23 (by decide) (fun (c23 : x1 ≤ 0) => ?_) (fun (c23 : ¬ (x1 ≤ 0)) => ?_)
  · rw [if_pos c23] at hf
    refine lv_iconst (v := zI 0) hx hb dX10_draw_39 rfl ?_
    cases hf
    exact hret H locs ls 40 dX10_draw_40 hw
  · rw [if_neg c23] at hf
    refine lv_aload_n hx hb dX10_draw_26 rfl (lv_at hl 0 rfl) ?_
    refine va_get (D := D) (ci := 10) (v := .int (zI (σ19.1 1))) (C := RX10) (T := TX10) (N := 13) hx hb hts (fun _ h => List.mem_cons_of_mem _ (List.mem_append_right _ h)) hown hK hw.1 0 rfl rfl 12 (by decide) (hts (.fieldLink RX10 88 "EggThrones" "drawSeed" "I") (List.mem_of_getElem? (i := 1) rfl)) (fun _ h9 => h9) rfl dX10_draw_27 ?_
    refine zv_ldcw hx hb 65536 (by decide +kernel) hown (hts (.constant RX10 336 (65536)) (List.mem_of_getElem? (i := 5) rfl)) dX10_draw_30 ?_
    obtain ⟨hz33, hf⟩ := gd_s hf
    refine zv_idiv hx hb hz33 dX10_draw_33 ?_
    refine lv_iload_n hx hb dX10_draw_34 rfl (lv_at hl 1 rfl) ?_
    obtain ⟨hz35, hf⟩ := gd_s hf
    refine zv_irem hx hb hz35 dX10_draw_35 ?_
    refine lv_goto (tgt := 40) hx hb dX10_draw_36 (by decide) ?_
    cases hf
    exact hret H locs ls 40 dX10_draw_40 hw
set_option maxHeartbeats 4000000 in
set_option maxRecDepth 100000 in
theorem tX10_draw {l : Launch} {D : va_G} {A : Nat → Prop} {cI cZ : ClassId} {q : Nat → Nat} {σ : St} {x1 : Int} {r : Int} {τ : St} (hf : pX10_draw σ x1 = some (r, τ)) : Met l yX10_draw wsX10_draw rmX10_draw (va_Pc [.ref (q 0), .int (zI x1)] (CX D (TY cI cZ) A (wE q cI cZ σ))) (QI D (TY cI cZ) A (wE q cI cZ τ) (zI r)) 0 0 A := by
  refine opn (cc := cX10_draw) (maxL := 2) (ret := (some .int)) (by decide) rfl (Nat.le_of_ble_eq_true rfl) (fun p e s m below meth c C ls hw hl => ?_)
  have hl : lv_has ls 2 [(0, .ref (q 0)), (1, .int (zI x1))] := hl
  rw [pX10_draw] at hf
  exact wX10_draw_0 C (rtI C) σ x1 _ _ ls hw (lv_sub hl [0, 1] rfl) hf
abbrev rmX10_actByDraws : Room := { frames := 5, cells := 0, slots := 0, locals := 117 }
set_option maxHeartbeats 4000000 in
set_option maxRecDepth 100000 in
theorem wX10_actByDraws_82 {p : Program} {l : Launch} {e : Env} {s : State} {m : MethodId} {args : Array Value} {below : List Frame} {meth : Method} {c : Code} {D : va_G} {A : Nat → Prop} {q : Nat → Nat} {cI cZ : ClassId} {Q : State → Prop} {τ : St} (C : Cx p s m args meth c D (TY cI cZ) cX10_actByDraws none 3 wsX10_actByDraws RX10) (hret : RtV p l e rmX10_actByDraws s m args below meth c D A cX10_actByDraws Q (wE q cI cZ τ)) :
    ∀ (σ : St) (x1 : Int) (x2 : Int) (H : Heap) (locs : List Loc) (ls : Array Slot), Wd D A s (wE q cI cZ σ) H locs → lv_has ls 3 [(0, .ref (q 0)), (1, .int (zI x1)), (2, .int (zI x2))] → pX10_actByDraws_82 σ x1 x2 = some τ → W p l e rmX10_actByDraws s m args below meth c H locs 0 0 Q (F0 m 82 ls []) := by
  obtain ⟨hx, hb, hr, hml, hown, hts, hlk, hK, hN⟩ := id C
  intro σ x1 x2 H locs ls hw hl hf
  rw [pX10_actByDraws_82] at hf
  refine lv_iload_n hx hb dX10_actByDraws_82 rfl (lv_at hl 2 rfl) ?_
  refine lv_iconst (v := zI 2) hx hb dX10_actByDraws_83 rfl ?_
  obtain ⟨hg84, hf⟩ := gd_s hf
  refine zv_icmp_ne (tgt := 106) hx hb ⟨hg84, by decide⟩ dX10_actByDraws_84 (by decide) (fun (c84 : ¬ (x2 = 2)) => ?_) (fun (c84 : x2 = 2) => ?_)
  · rw [if_neg c84] at hf
    cases hf
    exact hret H locs ls 106 dX10_actByDraws_106 hw
  · rw [if_pos c84] at hf
    refine lv_aload_n hx hb dX10_actByDraws_87 rfl (lv_at hl 0 rfl) ?_
    refine va_get (D := D) (ci := 10) (v := .ref (q 15)) (C := RX10) (T := TX10) (N := 13) hx hb hts (fun _ h => List.mem_cons_of_mem _ (List.mem_append_left _ (List.mem_append_left _ (List.mem_append_right _ h)))) hown hK hw.1 0 rfl rfl 3 (by decide) (hts (.fieldLink RX10 31 "EggThrones" "now" "LEggThrones$Morning;") (List.mem_of_getElem? (i := 2) rfl)) (fun _ h9 => h9) rfl dX10_actByDraws_88 ?_
    refine lv_iload_n hx hb dX10_actByDraws_91 rfl (lv_at hl 1 rfl) ?_
    obtain ⟨r92, h92, hf⟩ := bd_s hf
    replace hf := bt_s hf
    refine gVi (As := [.int (zI x1)]) (rest := []) C hw (tX4_canBeKing h92) (cwV 1 hts gX10_actByDraws_X4_canBeKing rfl rfl rfl (by decide +kernel) ⟨Nat.le_of_ble_eq_true rfl, Nat.le_of_ble_eq_true rfl⟩) 4 15 rfl rfl rfl hl.1 rfl (Nat.le_of_ble_eq_true rfl) dX10_actByDraws_92 (fun H locs hw => ?_)
    obtain ⟨hg95, hf⟩ := gd_s hf
    refine zv_if_eq (tgt := 106) hx hb hg95 dX10_actByDraws_95 (by decide) (fun (c95 : r92 = 0) => ?_) (fun (c95 : ¬ (r92 = 0)) => ?_)
    · rw [if_pos c95] at hf
      cases hf
      exact hret H locs ls 106 dX10_actByDraws_106 hw
    · rw [if_neg c95] at hf
      refine lv_aload_n hx hb dX10_actByDraws_98 rfl (lv_at hl 0 rfl) ?_
      refine va_get (D := D) (ci := 10) (v := .ref (q 15)) (C := RX10) (T := TX10) (N := 13) hx hb hts (fun _ h => List.mem_cons_of_mem _ (List.mem_append_left _ (List.mem_append_left _ (List.mem_append_right _ h)))) hown hK hw.1 0 rfl rfl 3 (by decide) (hts (.fieldLink RX10 31 "EggThrones" "now" "LEggThrones$Morning;") (List.mem_of_getElem? (i := 2) rfl)) (fun _ h9 => h9) rfl dX10_actByDraws_99 ?_
      refine lv_iload_n hx hb dX10_actByDraws_102 rfl (lv_at hl 1 rfl) ?_
      obtain ⟨σ103, h103, hf⟩ := bd_s hf
      replace hf := bt_s hf
      refine gVv (As := [.int (zI x1)]) (rest := []) C hw (tX4_becomeKing h103) (cwV 1 hts gX10_actByDraws_X4_becomeKing rfl rfl rfl (by decide +kernel) ⟨Nat.le_of_ble_eq_true rfl, Nat.le_of_ble_eq_true rfl⟩) 4 15 rfl rfl rfl hl.1 rfl (Nat.le_of_ble_eq_true rfl) dX10_actByDraws_103 (fun H locs hw => ?_)
      cases hf
      exact hret H locs ls 106 dX10_actByDraws_106 hw
set_option maxHeartbeats 4000000 in
set_option maxRecDepth 100000 in
theorem wX10_actByDraws_55 {p : Program} {l : Launch} {e : Env} {s : State} {m : MethodId} {args : Array Value} {below : List Frame} {meth : Method} {c : Code} {D : va_G} {A : Nat → Prop} {q : Nat → Nat} {cI cZ : ClassId} {Q : State → Prop} {τ : St} (C : Cx p s m args meth c D (TY cI cZ) cX10_actByDraws none 3 wsX10_actByDraws RX10) (hret : RtV p l e rmX10_actByDraws s m args below meth c D A cX10_actByDraws Q (wE q cI cZ τ)) :
    ∀ (σ : St) (x1 : Int) (x2 : Int) (H : Heap) (locs : List Loc) (ls : Array Slot), Wd D A s (wE q cI cZ σ) H locs → lv_has ls 3 [(0, .ref (q 0)), (1, .int (zI x1)), (2, .int (zI x2))] → pX10_actByDraws_55 σ x1 x2 = some τ → W p l e rmX10_actByDraws s m args below meth c H locs 0 0 Q (F0 m 55 ls []) := by
  obtain ⟨hx, hb, hr, hml, hown, hts, hlk, hK, hN⟩ := id C
  intro σ x1 x2 H locs ls hw hl hf
  rw [pX10_actByDraws_55] at hf
  refine lv_iload_n hx hb dX10_actByDraws_55 rfl (lv_at hl 2 rfl) ?_
  refine lv_iconst (v := zI 1) hx hb dX10_actByDraws_56 rfl ?_
  obtain ⟨hg57, hf⟩ := gd_s hf
  refine zv_icmp_ne (tgt := 82) hx hb ⟨hg57, by decide⟩ dX10_actByDraws_57 (by decide) (fun (c57 : ¬ (x2 = 1)) => ?_) (fun (c57 : x2 = 1) => ?_)
  · rw [if_neg c57] at hf
    exact wX10_actByDraws_82 C hret σ x1 x2 H locs ls hw (lv_sub hl [0, 1, 2] rfl) hf
  · rw [if_pos c57] at hf
    refine lv_aload_n hx hb dX10_actByDraws_60 rfl (lv_at hl 0 rfl) ?_
    refine va_get (D := D) (ci := 10) (v := .ref (q 15)) (C := RX10) (T := TX10) (N := 13) hx hb hts (fun _ h => List.mem_cons_of_mem _ (List.mem_append_left _ (List.mem_append_left _ (List.mem_append_right _ h)))) hown hK hw.1 0 rfl rfl 3 (by decide) (hts (.fieldLink RX10 31 "EggThrones" "now" "LEggThrones$Morning;") (List.mem_of_getElem? (i := 2) rfl)) (fun _ h9 => h9) rfl dX10_actByDraws_61 ?_
    refine lv_iload_n hx hb dX10_actByDraws_64 rfl (lv_at hl 1 rfl) ?_
    obtain ⟨r65, h65, hf⟩ := bd_s hf
    replace hf := bt_s hf
    refine gVi (As := [.int (zI x1)]) (rest := []) C hw (tX4_canComeOut h65) (cwV 1 hts gX10_actByDraws_X4_canComeOut rfl rfl rfl (by decide +kernel) ⟨Nat.le_of_ble_eq_true rfl, Nat.le_of_ble_eq_true rfl⟩) 4 15 rfl rfl rfl hl.1 rfl (Nat.le_of_ble_eq_true rfl) dX10_actByDraws_65 (fun H locs hw => ?_)
    obtain ⟨hg68, hf⟩ := gd_s hf
    refine zv_if_eq (tgt := 82) hx hb hg68 dX10_actByDraws_68 (by decide) (fun (c68 : r65 = 0) => ?_) (fun (c68 : ¬ (r65 = 0)) => ?_)
    · rw [if_pos c68] at hf
      exact wX10_actByDraws_82 C hret σ x1 x2 H locs ls hw (lv_sub hl [0, 1, 2] rfl) hf
    · rw [if_neg c68] at hf
      refine lv_aload_n hx hb dX10_actByDraws_71 rfl (lv_at hl 0 rfl) ?_
      refine va_get (D := D) (ci := 10) (v := .ref (q 15)) (C := RX10) (T := TX10) (N := 13) hx hb hts (fun _ h => List.mem_cons_of_mem _ (List.mem_append_left _ (List.mem_append_left _ (List.mem_append_right _ h)))) hown hK hw.1 0 rfl rfl 3 (by decide) (hts (.fieldLink RX10 31 "EggThrones" "now" "LEggThrones$Morning;") (List.mem_of_getElem? (i := 2) rfl)) (fun _ h9 => h9) rfl dX10_actByDraws_72 ?_
      refine lv_iload_n hx hb dX10_actByDraws_75 rfl (lv_at hl 1 rfl) ?_
      obtain ⟨σ76, h76, hf⟩ := bd_s hf
      replace hf := bt_s hf
      refine gVv (As := [.int (zI x1)]) (rest := []) C hw (tX4_comeOut h76) (cwV 1 hts gX10_actByDraws_X4_comeOut rfl rfl rfl (by decide +kernel) ⟨Nat.le_of_ble_eq_true rfl, Nat.le_of_ble_eq_true rfl⟩) 4 15 rfl rfl rfl hl.1 rfl (Nat.le_of_ble_eq_true rfl) dX10_actByDraws_76 (fun H locs hw => ?_)
      refine lv_goto (tgt := 106) hx hb dX10_actByDraws_79 (by decide) ?_
      cases hf
      exact hret H locs ls 106 dX10_actByDraws_106 hw
set_option maxHeartbeats 4000000 in
set_option maxRecDepth 100000 in
theorem wX10_actByDraws_0 {p : Program} {l : Launch} {e : Env} {s : State} {m : MethodId} {args : Array Value} {below : List Frame} {meth : Method} {c : Code} {D : va_G} {A : Nat → Prop} {q : Nat → Nat} {cI cZ : ClassId} {Q : State → Prop} {τ : St} (C : Cx p s m args meth c D (TY cI cZ) cX10_actByDraws none 3 wsX10_actByDraws RX10) (hret : RtV p l e rmX10_actByDraws s m args below meth c D A cX10_actByDraws Q (wE q cI cZ τ)) :
    ∀ (σ : St) (H : Heap) (locs : List Loc) (ls : Array Slot), Wd D A s (wE q cI cZ σ) H locs → lv_has ls 3 [(0, .ref (q 0))] → pX10_actByDraws_0 σ = some τ → W p l e rmX10_actByDraws s m args below meth c H locs 0 0 Q (F0 m 0 ls []) := by
  obtain ⟨hx, hb, hr, hml, hown, hts, hlk, hK, hN⟩ := id C
  intro σ H locs ls hw hl hf
  rw [pX10_actByDraws_0] at hf
  refine lv_aload_n hx hb dX10_actByDraws_0 rfl (lv_at hl 0 rfl) ?_
  refine va_get (D := D) (ci := 10) (v := .ref (q 1)) (C := RX10) (T := TX10) (N := 13) hx hb hts (fun _ h => List.mem_cons_of_mem _ (List.mem_append_left _ (List.mem_append_left _ (List.mem_append_right _ h)))) hown hK hw.1 0 rfl rfl 1 (by decide) (hts (.fieldLink RX10 19 "EggThrones" "laid" "LEggThrones$Table;") (List.mem_of_getElem? (i := 1) rfl)) (fun _ h9 => h9) rfl dX10_actByDraws_1 ?_
  refine va_getN (D := D) (ci := 8) (v := .int (zI (σ.1 5))) (C := RX8) (T := TX8) (N := 10) hx hb hts (fun _ h => List.mem_cons_of_mem _ (List.mem_append_left _ (List.mem_append_right _ h))) hown hK hw.1 1 rfl rfl 3 (by decide) (va_Nw.use rfl (hN (.fieldLinkNest "EggThrones" 127 "EggThrones$Table" "eggs" "I" "EggThrones") (by decide +kernel))) (fun _ h9 => h9) rfl dX10_actByDraws_4 ?_
  obtain ⟨hg7, hf⟩ := gd_s hf
  refine zv_if_gt (tgt := 11) hx hb hg7 dX10_actByDraws_7 (by decide) (fun (c7 : 0 < (σ.1 5)) => ?_) (fun (c7 : ¬ (0 < (σ.1 5))) => ?_)
  · rw [if_pos c7] at hf
    refine lv_aload_n hx hb dX10_actByDraws_11 rfl (lv_at hl 0 rfl) ?_
    refine lv_aload_n hx hb dX10_actByDraws_12 rfl (lv_at hl 0 rfl) ?_
    refine va_get (D := D) (ci := 10) (v := .ref (q 1)) (C := RX10) (T := TX10) (N := 13) hx hb hts (fun _ h => List.mem_cons_of_mem _ (List.mem_append_left _ (List.mem_append_left _ (List.mem_append_right _ h)))) hown hK hw.1 0 rfl rfl 1 (by decide) (hts (.fieldLink RX10 19 "EggThrones" "laid" "LEggThrones$Table;") (List.mem_of_getElem? (i := 1) rfl)) (fun _ h9 => h9) rfl dX10_actByDraws_13 ?_
    refine va_getN (D := D) (ci := 8) (v := .int (zI (σ.1 5))) (C := RX8) (T := TX8) (N := 10) hx hb hts (fun _ h => List.mem_cons_of_mem _ (List.mem_append_left _ (List.mem_append_right _ h))) hown hK hw.1 1 rfl rfl 3 (by decide) (va_Nw.use rfl (hN (.fieldLinkNest "EggThrones" 127 "EggThrones$Table" "eggs" "I" "EggThrones") (by decide +kernel))) (fun _ h9 => h9) rfl dX10_actByDraws_16 ?_
    obtain ⟨⟨r19, σ19⟩, h19, hf⟩ := bd_s hf
    have hf := hf2_s hf
    refine gVi (As := [.int (zI (σ.1 5))]) (rest := []) C hw (tX10_draw h19) (cwV 1 hts gX10_actByDraws_X10_draw rfl rfl rfl (by decide +kernel) ⟨Nat.le_of_ble_eq_true rfl, Nat.le_of_ble_eq_true rfl⟩) 10 0 rfl rfl rfl hl.1 rfl (Nat.le_of_ble_eq_true rfl) dX10_actByDraws_19 (fun H locs hw => ?_)
    refine lv_istore_n (lv' := [(1, .int (zI r19)), (0, .ref (q 0))]) hx hb dX10_actByDraws_22 rfl hl (by decide) rfl (fun ls hl => ?_)
    refine lv_aload_n hx hb dX10_actByDraws_23 rfl (lv_at hl 1 rfl) ?_
    refine lv_iconst (v := zI 3) hx hb dX10_actByDraws_24 rfl ?_
    obtain ⟨⟨r25, σ25⟩, h25, hf⟩ := bd_s hf
    have hf := hf2_s hf
    refine gVi (As := [.int (zI 3)]) (rest := []) C hw (tX10_draw h25) (cwV 1 hts gX10_actByDraws_X10_draw rfl rfl rfl (by decide +kernel) ⟨Nat.le_of_ble_eq_true rfl, Nat.le_of_ble_eq_true rfl⟩) 10 0 rfl rfl rfl hl.1 rfl (Nat.le_of_ble_eq_true rfl) dX10_actByDraws_25 (fun H locs hw => ?_)
    refine lv_istore_n (lv' := [(2, .int (zI r25)), (1, .int (zI r19)), (0, .ref (q 0))]) hx hb dX10_actByDraws_28 rfl hl (by decide) rfl (fun ls hl => ?_)
    refine lv_iload_n hx hb dX10_actByDraws_29 rfl (lv_at hl 0 rfl) ?_
    obtain ⟨hg30, hf⟩ := gd_s hf
    refine zv_if_ne (tgt := 55) hx hb hg30 dX10_actByDraws_30 (by decide) (fun (c30 : ¬ (r25 = 0)) => ?_) (fun (c30 : r25 = 0) => ?_)
    · rw [if_neg c30] at hf
      exact wX10_actByDraws_55 C hret σ25 r19 r25 H locs ls hw (lv_sub hl [2, 1, 0] rfl) hf
    · rw [if_pos c30] at hf
      refine lv_aload_n hx hb dX10_actByDraws_33 rfl (lv_at hl 2 rfl) ?_
      refine va_get (D := D) (ci := 10) (v := .ref (q 15)) (C := RX10) (T := TX10) (N := 13) hx hb hts (fun _ h => List.mem_cons_of_mem _ (List.mem_append_left _ (List.mem_append_left _ (List.mem_append_right _ h)))) hown hK hw.1 0 rfl rfl 3 (by decide) (hts (.fieldLink RX10 31 "EggThrones" "now" "LEggThrones$Morning;") (List.mem_of_getElem? (i := 2) rfl)) (fun _ h9 => h9) rfl dX10_actByDraws_34 ?_
      refine lv_iload_n hx hb dX10_actByDraws_37 rfl (lv_at hl 1 rfl) ?_
      obtain ⟨r38, h38, hf⟩ := bd_s hf
      replace hf := bt_s hf
      refine gVi (As := [.int (zI r19)]) (rest := []) C hw (tX4_canGoIn h38) (cwV 1 hts gX10_actByDraws_X4_canGoIn rfl rfl rfl (by decide +kernel) ⟨Nat.le_of_ble_eq_true rfl, Nat.le_of_ble_eq_true rfl⟩) 4 15 rfl rfl rfl hl.1 rfl (Nat.le_of_ble_eq_true rfl) dX10_actByDraws_38 (fun H locs hw => ?_)
      obtain ⟨hg41, hf⟩ := gd_s hf
      refine zv_if_eq (tgt := 55) hx hb hg41 dX10_actByDraws_41 (by decide) (fun (c41 : r38 = 0) => ?_) (fun (c41 : ¬ (r38 = 0)) => ?_)
      · rw [if_pos c41] at hf
        exact wX10_actByDraws_55 C hret σ25 r19 r25 H locs ls hw (lv_sub hl [2, 1, 0] rfl) hf
      · rw [if_neg c41] at hf
        refine lv_aload_n hx hb dX10_actByDraws_44 rfl (lv_at hl 2 rfl) ?_
        refine va_get (D := D) (ci := 10) (v := .ref (q 15)) (C := RX10) (T := TX10) (N := 13) hx hb hts (fun _ h => List.mem_cons_of_mem _ (List.mem_append_left _ (List.mem_append_left _ (List.mem_append_right _ h)))) hown hK hw.1 0 rfl rfl 3 (by decide) (hts (.fieldLink RX10 31 "EggThrones" "now" "LEggThrones$Morning;") (List.mem_of_getElem? (i := 2) rfl)) (fun _ h9 => h9) rfl dX10_actByDraws_45 ?_
        refine lv_iload_n hx hb dX10_actByDraws_48 rfl (lv_at hl 1 rfl) ?_
        obtain ⟨σ49, h49, hf⟩ := bd_s hf
        replace hf := bt_s hf
        refine gVv (As := [.int (zI r19)]) (rest := []) C hw (tX4_goIn h49) (cwV 1 hts gX10_actByDraws_X4_goIn rfl rfl rfl (by decide +kernel) ⟨Nat.le_of_ble_eq_true rfl, Nat.le_of_ble_eq_true rfl⟩) 4 15 rfl rfl rfl hl.1 rfl (Nat.le_of_ble_eq_true rfl) dX10_actByDraws_49 (fun H locs hw => ?_)
        refine lv_goto (tgt := 106) hx hb dX10_actByDraws_52 (by decide) ?_
        cases hf
        exact hret H locs ls 106 dX10_actByDraws_106 hw
  · rw [if_neg c7] at hf
    cases hf
    exact hret H locs ls 10 dX10_actByDraws_10 hw
set_option maxHeartbeats 4000000 in
set_option maxRecDepth 100000 in
theorem tX10_actByDraws {l : Launch} {D : va_G} {A : Nat → Prop} {cI cZ : ClassId} {q : Nat → Nat} {σ : St} {τ : St} (hf : pX10_actByDraws σ = some τ) : Met l yX10_actByDraws wsX10_actByDraws rmX10_actByDraws (va_Pc [.ref (q 0)] (CX D (TY cI cZ) A (wE q cI cZ σ))) (QV D (TY cI cZ) A (wE q cI cZ τ)) 0 0 A := by
  refine opn (cc := cX10_actByDraws) (maxL := 3) (ret := none) (by decide) rfl (Nat.le_of_ble_eq_true rfl) (fun p e s m below meth c C ls hw hl => ?_)
  have hl : lv_has ls 3 [(0, .ref (q 0))] := hl
  rw [pX10_actByDraws] at hf
  exact wX10_actByDraws_0 C (rtV C) σ _ _ ls hw (lv_sub hl [0] rfl) hf
abbrev rmX10_drift : Room := { frames := 6, cells := 0, slots := 0, locals := 139 }
set_option maxHeartbeats 4000000 in
set_option maxRecDepth 100000 in
theorem wX10_drift_25 {p : Program} {l : Launch} {e : Env} {s : State} {m : MethodId} {args : Array Value} {below : List Frame} {meth : Method} {c : Code} {D : va_G} {A : Nat → Prop} {q : Nat → Nat} {cI cZ : ClassId} {Q : State → Prop} {r : Int} {τ : St} (C : Cx p s m args meth c D (TY cI cZ) cX10_drift (some .int) 4 wsX10_drift RX10) (hret : RtI p l e rmX10_drift s m args below meth c D A cX10_drift Q (wE q cI cZ τ) (zI r)) :
    ∀ (n : Nat) (σ : St) (x1 : Int) (x3 : Int) (H : Heap) (locs : List Loc) (ls : Array Slot), Wd D A s (wE q cI cZ σ) H locs → lv_has ls 4 [(0, .ref (q 0)), (1, .int (zI x1)), (3, .int (zI x3))] → pX10_drift_25 n σ x1 x3 = some (r, τ) → W p l e rmX10_drift s m args below meth c H locs 0 0 Q (F0 m 25 ls []) := by
  obtain ⟨hx, hb, hr, hml, hown, hts, hlk, hK, hN⟩ := id C
  intro n
  induction n with
  | zero =>
    intro σ x1 x3 H locs ls hw hl hf
    exact absurd (show (none : Option (Int × St)) = some (r, τ) from hf) (by simp)
  | succ n ih =>
    intro σ x1 x3 H locs ls hw hl hf
    rw [pX10_drift_25] at hf
    refine lv_iload_n hx hb dX10_drift_25 rfl (lv_at hl 2 rfl) ?_
    refine lv_iload_n hx hb dX10_drift_26 rfl (lv_at hl 1 rfl) ?_
    obtain ⟨hg27, hf⟩ := gd_s hf
    refine zv_icmp_ge (tgt := 47) hx hb hg27 dX10_drift_27 (by decide) (fun (c27 : x1 ≤ x3) => ?_) (fun (c27 : ¬ (x1 ≤ x3)) => ?_)
    · rw [if_pos c27] at hf
      refine lv_aload_n hx hb dX10_drift_47 rfl (lv_at hl 0 rfl) ?_
      refine va_get (D := D) (ci := 10) (v := .ref (q 15)) (C := RX10) (T := TX10) (N := 13) hx hb hts (fun _ h => List.mem_cons_of_mem _ (List.mem_append_left _ (List.mem_append_left _ (List.mem_append_left _ (List.mem_append_right _ h))))) hown hK hw.1 0 rfl rfl 3 (by decide) (hts (.fieldLink RX10 31 "EggThrones" "now" "LEggThrones$Morning;") (List.mem_of_getElem? (i := 2) rfl)) (fun _ h9 => h9) rfl dX10_drift_48 ?_
      refine va_getN (D := D) (ci := 4) (v := .int (zI (σ.1 20))) (C := RX4) (T := TX4) (N := 9) hx hb hts (fun _ h => List.mem_cons_of_mem _ (List.mem_append_left _ (List.mem_append_left _ (List.mem_append_right _ h)))) hown hK hw.1 15 rfl rfl 7 (by decide) (va_Nw.use rfl (hN (.fieldLinkNest "EggThrones" 151 "EggThrones$Morning" "reigned" "I" "EggThrones") (by decide +kernel))) (fun _ h9 => h9) rfl dX10_drift_51 ?_
      cases hf
      exact hret H locs ls 54 dX10_drift_54 hw
    · rw [if_neg c27] at hf
      refine lv_aload_n hx hb dX10_drift_30 rfl (lv_at hl 0 rfl) ?_
      obtain ⟨σ31, h31, hf⟩ := bd_s hf
      replace hf := bt_s hf
      refine gVv (As := []) (rest := []) C hw (tX10_actByDraws h31) (cwV 0 hts gX10_drift_X10_actByDraws rfl rfl rfl (by decide +kernel) ⟨Nat.le_of_ble_eq_true rfl, Nat.le_of_ble_eq_true rfl⟩) 10 0 rfl rfl rfl hl.1 rfl (Nat.le_of_ble_eq_true rfl) dX10_drift_31 (fun H locs hw => ?_)
      refine lv_aload_n hx hb dX10_drift_34 rfl (lv_at hl 0 rfl) ?_
      refine va_get (D := D) (ci := 10) (v := .ref (q 15)) (C := RX10) (T := TX10) (N := 13) hx hb hts (fun _ h => List.mem_cons_of_mem _ (List.mem_append_left _ (List.mem_append_left _ (List.mem_append_left _ (List.mem_append_right _ h))))) hown hK hw.1 0 rfl rfl 3 (by decide) (hts (.fieldLink RX10 31 "EggThrones" "now" "LEggThrones$Morning;") (List.mem_of_getElem? (i := 2) rfl)) (fun _ h9 => h9) rfl dX10_drift_35 ?_
      obtain ⟨σ38, h38, hf⟩ := bd_s hf
      replace hf := bt_s hf
      refine gVv (As := []) (rest := []) C hw (tX4_passMinute h38) (cwV 0 hts gX10_drift_X4_passMinute rfl rfl rfl (by decide +kernel) ⟨Nat.le_of_ble_eq_true rfl, Nat.le_of_ble_eq_true rfl⟩) 4 15 rfl rfl rfl hl.1 rfl (Nat.le_of_ble_eq_true rfl) dX10_drift_38 (fun H locs hw => ?_)
      refine lv_iinc (v := zI (x3 + 1)) (lv' := [(3, .int (zI (x3 + 1))), (0, .ref (q 0)), (1, .int (zI x1))]) hx hb dX10_drift_41 hl (k := 2) rfl (zI_add _ _) (by decide) rfl (fun ls hl => ?_)
      refine lv_goto (tgt := 25) hx hb dX10_drift_44 (by decide) ?_
      exact ih σ38 x1 (x3 + 1) H locs ls hw (lv_sub hl [1, 2, 0] rfl) hf
set_option maxHeartbeats 4000000 in
set_option maxRecDepth 100000 in
theorem wX10_drift_0 {p : Program} {l : Launch} {e : Env} {s : State} {m : MethodId} {args : Array Value} {below : List Frame} {meth : Method} {c : Code} {D : va_G} {A : Nat → Prop} {q : Nat → Nat} {cI cZ : ClassId} {Q : State → Prop} {r : Int} {τ : St} (C : Cx p s m args meth c D (TY cI cZ) cX10_drift (some .int) 4 wsX10_drift RX10) (hret : RtI p l e rmX10_drift s m args below meth c D A cX10_drift Q (wE q cI cZ τ) (zI r)) :
    ∀ (σ : St) (x1 : Int) (H : Heap) (locs : List Loc) (ls : Array Slot), Wd D A s (wE q cI cZ σ) H locs → lv_has ls 4 [(0, .ref (q 0)), (1, .int (zI x1))] → pX10_drift_0 σ x1 = some (r, τ) → W p l e rmX10_drift s m args below meth c H locs 0 0 Q (F0 m 0 ls []) := by
  obtain ⟨hx, hb, hr, hml, hown, hts, hlk, hK, hN⟩ := id C
  intro σ x1 H locs ls hw hl hf
  rw [pX10_drift_0] at hf
  refine lv_aload_n hx hb dX10_drift_0 rfl (lv_at hl 0 rfl) ?_
  refine lv_iload_n hx hb dX10_drift_1 rfl (lv_at hl 1 rfl) ?_
  obtain ⟨r2, h2, hf⟩ := bd_s hf
  replace hf := bt_s hf
  refine gVi (As := [.int (zI x1)]) (rest := []) C hw (tX10_refusalOfMinutes h2) (cwV 1 hts gX10_drift_X10_refusalOfMinutes rfl rfl rfl (by decide +kernel) ⟨Nat.le_of_ble_eq_true rfl, Nat.le_of_ble_eq_true rfl⟩) 10 0 rfl rfl rfl hl.1 rfl (Nat.le_of_ble_eq_true rfl) dX10_drift_2 (fun H locs hw => ?_)
  refine lv_istore_n (lv' := [(2, .int (zI r2)), (0, .ref (q 0)), (1, .int (zI x1))]) hx hb dX10_drift_5 rfl hl (by decide) rfl (fun ls hl => ?_)
  refine lv_iload_n hx hb dX10_drift_6 rfl (lv_at hl 0 rfl) ?_
  obtain ⟨hg7, hf⟩ := gd_s hf
  refine zv_if_eq (tgt := 12) hx hb hg7 dX10_drift_7 (by decide) (fun (c7 : r2 = 0) => ?_) (fun (c7 : ¬ (r2 = 0)) => ?_)
  · rw [if_pos c7] at hf
    refine lv_aload_n hx hb dX10_drift_12 rfl (lv_at hl 1 rfl) ?_
    refine va_get (D := D) (ci := 10) (v := .ref (q 18)) (C := RX10) (T := TX10) (N := 13) hx hb hts (fun _ h => List.mem_cons_of_mem _ (List.mem_append_left _ (List.mem_append_left _ (List.mem_append_left _ (List.mem_append_right _ h))))) hown hK hw.1 0 rfl rfl 4 (by decide) (hts (.fieldLink RX10 38 "EggThrones" "past" "LEggThrones$Past;") (List.mem_of_getElem? (i := 1) rfl)) (fun _ h9 => h9) rfl dX10_drift_13 ?_
    refine lv_aload_n hx hb dX10_drift_16 rfl (lv_at hl 1 rfl) ?_
    refine va_get (D := D) (ci := 10) (v := .ref (q 15)) (C := RX10) (T := TX10) (N := 13) hx hb hts (fun _ h => List.mem_cons_of_mem _ (List.mem_append_left _ (List.mem_append_left _ (List.mem_append_left _ (List.mem_append_right _ h))))) hown hK hw.1 0 rfl rfl 3 (by decide) (hts (.fieldLink RX10 31 "EggThrones" "now" "LEggThrones$Morning;") (List.mem_of_getElem? (i := 2) rfl)) (fun _ h9 => h9) rfl dX10_drift_17 ?_
    obtain ⟨σ20, h20, hf⟩ := bd_s hf
    replace hf := bt_s hf
    refine gVv (As := [.ref (q 15)]) (rest := []) C hw (tX5_remember h20) (cwV 1 hts gX10_drift_X5_remember rfl rfl rfl (by decide +kernel) ⟨Nat.le_of_ble_eq_true rfl, Nat.le_of_ble_eq_true rfl⟩) 5 18 rfl rfl rfl hl.1 rfl (Nat.le_of_ble_eq_true rfl) dX10_drift_20 (fun H locs hw => ?_)
    refine lv_iconst (v := zI 0) hx hb dX10_drift_23 rfl ?_
    refine lv_istore_n (lv' := [(3, .int (zI 0)), (2, .int (zI r2)), (0, .ref (q 0)), (1, .int (zI x1))]) hx hb dX10_drift_24 rfl hl (by decide) rfl (fun ls hl => ?_)
    exact wX10_drift_25 C hret FU σ20 x1 0 H locs ls hw (lv_sub hl [2, 3, 0] rfl) hf
  · rw [if_neg c7] at hf
    refine lv_iload_n hx hb dX10_drift_10 rfl (lv_at hl 0 rfl) ?_
    cases hf
    exact hret H locs ls 11 dX10_drift_11 hw
set_option maxHeartbeats 4000000 in
set_option maxRecDepth 100000 in
theorem tX10_drift {l : Launch} {D : va_G} {A : Nat → Prop} {cI cZ : ClassId} {q : Nat → Nat} {σ : St} {x1 : Int} {r : Int} {τ : St} (hf : pX10_drift σ x1 = some (r, τ)) : Met l yX10_drift wsX10_drift rmX10_drift (va_Pc [.ref (q 0), .int (zI x1)] (CX D (TY cI cZ) A (wE q cI cZ σ))) (QI D (TY cI cZ) A (wE q cI cZ τ) (zI r)) 0 0 A := by
  refine opn (cc := cX10_drift) (maxL := 4) (ret := (some .int)) (by decide) rfl (Nat.le_of_ble_eq_true rfl) (fun p e s m below meth c C ls hw hl => ?_)
  have hl : lv_has ls 4 [(0, .ref (q 0)), (1, .int (zI x1))] := hl
  rw [pX10_drift] at hf
  exact wX10_drift_0 C (rtI C) σ x1 _ _ ls hw (lv_sub hl [0, 1] rfl) hf
abbrev rmX11_draw : Room := { frames := 0, cells := 0, slots := 0, locals := 0 }
set_option maxHeartbeats 4000000 in
set_option maxRecDepth 100000 in
theorem wX11_draw_0 {p : Program} {l : Launch} {e : Env} {s : State} {m : MethodId} {args : Array Value} {below : List Frame} {meth : Method} {c : Code} {D : va_G} {A : Nat → Prop} {q : Nat → Nat} {cI cZ : ClassId} {Q : State → Prop} {r : Int} {τ : St} (C : Cx p s m args meth c D (TY cI cZ) cX11_draw (some .int) 2 wsX11_draw RX11) (hret : RtI p l e rmX11_draw s m args below meth c D A cX11_draw Q (wM q cI cZ τ) (zI r)) :
    ∀ (σ : St) (x1 : Int) (H : Heap) (locs : List Loc) (ls : Array Slot), Wd D A s (wM q cI cZ σ) H locs → lv_has ls 2 [(0, .ref (q 0)), (1, .int (zI x1))] → pX11_draw_0 σ x1 = some (r, τ) → W p l e rmX11_draw s m args below meth c H locs 0 0 Q (F0 m 0 ls []) := by
  obtain ⟨hx, hb, hr, hml, hown, hts, hlk, hK, hN⟩ := id C
  intro σ x1 H locs ls hw hl hf
  rw [pX11_draw_0] at hf
  refine lv_aload_n hx hb dX11_draw_0 rfl (lv_at hl 0 rfl) ?_
  refine lv_aload_n hx hb dX11_draw_1 rfl (lv_at hl 0 rfl) ?_
  refine va_get (D := D) (ci := 11) (v := .int (zI (σ.1 4))) (C := RX11) (T := TX11) (N := 40) hx hb hts (fun _ h => List.mem_cons_of_mem _ (List.mem_append_right _ h)) hown hK hw.1 0 rfl rfl 10 (by decide) (hts (.fieldLink RX11 231 "EggThronesModel" "seed" "I") (List.mem_of_getElem? (i := 1) rfl)) (fun _ h9 => h9) rfl dX11_draw_2 ?_
  obtain ⟨hz5, hf⟩ := gd_s hf
  refine zv_i2l hx hb hz5 dX11_draw_5 ?_
  refine zv_ldc2 hx hb 1103515245 (by decide +kernel) hown (hts (.constantLong RX11 234 (1103515245)) (List.mem_of_getElem? (i := 2) rfl)) dX11_draw_6 ?_
  refine zv_lmul hx hb dX11_draw_9 ?_
  refine zv_ldc2 hx hb 12345 (by decide +kernel) hown (hts (.constantLong RX11 236 (12345)) (List.mem_of_getElem? (i := 3) rfl)) dX11_draw_10 ?_
  refine zv_ladd hx hb dX11_draw_13 ?_
  refine zv_ldc2 hx hb 2147483648 (by decide +kernel) hown (hts (.constantLong RX11 238 (2147483648)) (List.mem_of_getElem? (i := 4) rfl)) dX11_draw_14 ?_
  obtain ⟨hz17, hf⟩ := gd_s hf
  refine zv_lrem hx hb hz17 dX11_draw_17 ?_
  refine zv_l2i hx hb dX11_draw_18 ?_
  refine va_put (D := D) (ci := 11) (v := .int (zI ((((σ.1 4) * 1103515245) + 12345) % 2147483648))) (ty := .int) (C := RX11) (T := TX11) (N := 40) hx hb hts (fun _ h => List.mem_cons_of_mem _ (List.mem_append_right _ h)) tyX11 tyX11_ok nmX11 hown hK hw.1 hw.2.1 hw.2.2 0 rfl rfl 10 (by decide) (hts (.fieldLink RX11 231 "EggThronesModel" "seed" "I") (List.mem_of_getElem? (i := 1) rfl)) (fun _ h9 => h9) rfl (by decide +kernel) rfl rfl (Nat.le_of_ble_eq_true rfl) dX11_draw_19 (fun H locs hP hD hS => ?_)
  have hw : Wd D A s (wM q cI cZ (sI σ 4 ((((σ.1 4) * 1103515245) + 12345) % 2147483648))) H locs := wdiM_4 hP hD hS
  obtain ⟨σ19, e19, hf⟩ := nm_s hf
  replace hf := bt_s hf
  rw [← e19] at hw
  refine lv_aload_n hx hb dX11_draw_22 rfl (lv_at hl 0 rfl) ?_
  refine va_get (D := D) (ci := 11) (v := .int (zI (σ19.1 4))) (C := RX11) (T := TX11) (N := 40) hx hb hts (fun _ h => List.mem_cons_of_mem _ (List.mem_append_right _ h)) hown hK hw.1 0 rfl rfl 10 (by decide) (hts (.fieldLink RX11 231 "EggThronesModel" "seed" "I") (List.mem_of_getElem? (i := 1) rfl)) (fun _ h9 => h9) rfl dX11_draw_23 ?_
  refine zv_ldc hx hb 65536 (by decide +kernel) hown (hts (.constant RX11 240 (65536)) (List.mem_of_getElem? (i := 5) rfl)) dX11_draw_26 ?_
  obtain ⟨hz28, hf⟩ := gd_s hf
  refine zv_idiv hx hb hz28 dX11_draw_28 ?_
  refine lv_iload_n hx hb dX11_draw_29 rfl (lv_at hl 1 rfl) ?_
  obtain ⟨hz30, hf⟩ := gd_s hf
  refine zv_irem hx hb hz30 dX11_draw_30 ?_
  cases hf
  exact hret H locs ls 31 dX11_draw_31 hw
set_option maxHeartbeats 4000000 in
set_option maxRecDepth 100000 in
theorem tX11_draw {l : Launch} {D : va_G} {A : Nat → Prop} {cI cZ : ClassId} {q : Nat → Nat} {σ : St} {x1 : Int} {r : Int} {τ : St} (hf : pX11_draw σ x1 = some (r, τ)) : Met l yX11_draw wsX11_draw rmX11_draw (va_Pc [.ref (q 0), .int (zI x1)] (CX D (TY cI cZ) A (wM q cI cZ σ))) (QI D (TY cI cZ) A (wM q cI cZ τ) (zI r)) 0 0 A := by
  refine opn (cc := cX11_draw) (maxL := 2) (ret := (some .int)) (by decide) rfl (Nat.le_of_ble_eq_true rfl) (fun p e s m below meth c C ls hw hl => ?_)
  have hl : lv_has ls 2 [(0, .ref (q 0)), (1, .int (zI x1))] := hl
  rw [pX11_draw] at hf
  exact wX11_draw_0 C (rtI C) σ x1 _ _ ls hw (lv_sub hl [0, 1] rfl) hf
