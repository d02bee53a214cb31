abbrev rmX10_allBoiled : Room := { frames := 13, cells := 0, slots := 0, locals := 668 }
set_option maxHeartbeats 4000000 in
set_option maxRecDepth 100000 in
theorem wX10_allBoiled_40 {p : Program} {l : Launch} {e : Env} {s : State} {m : MethodId} {args : Array Value} {below : List Frame} {meth : Method} {c : Code} {D : va_G} {A : Nat → Prop} {q : Nat → Nat} {cI cZ : ClassId} {Q : State → Prop} {r : Int} {τ : St} (C : Cx p s m args meth c D (TY cI cZ) cX10_allBoiled (some .int) 4 wsX10_allBoiled RX10) (hret : RtI p l e rmX10_allBoiled s m args below meth c D A cX10_allBoiled Q (wE q cI cZ τ) (zI r)) :
    ∀ (σ : St) (x1 : Int) (x2 : Int) (x3 : Int) (H : Heap) (locs : List Loc) (ls : Array Slot), Wd D A s (wE q cI cZ σ) H locs → lv_has ls 4 [(0, .ref (q 0)), (1, .int (zI x1)), (2, .int (zI x2)), (3, .int (zI x3))] → pX10_allBoiled_40 σ x1 x2 x3 = some (r, τ) → W p l e rmX10_allBoiled s m args below meth c H locs 0 0 Q (F0 m 40 ls []) := by
  obtain ⟨hx, hb, hr, hml, hown, hts, hlk, hK, hN⟩ := id C
  intro σ x1 x2 x3 H locs ls hw hl hf
  rw [pX10_allBoiled_40] at hf
  refine lv_aload_n hx hb dX10_allBoiled_40 rfl (lv_at hl 0 rfl) ?_
  refine va_get (D := D) (ci := 10) (v := .ref (q 1)) (C := RX10) (T := TX10) (N := 13) hx hb hts (fun _ h => List.mem_cons_of_mem _ (List.mem_append_left _ (List.mem_append_left _ (List.mem_append_right _ h)))) hown hK hw.1 0 rfl rfl 1 (by decide) (hts (.fieldLink RX10 19 "EggThrones" "laid" "LEggThrones$Table;") (List.mem_of_getElem? (i := 1) rfl)) (fun _ h9 => h9) rfl dX10_allBoiled_41 ?_
  obtain ⟨r44, h44, hf⟩ := bd_s hf
  replace hf := bt_s hf
  refine gVi (As := []) (rest := []) C hw (tX8_isLaid_c1 h44) (cwV 0 hts gX10_allBoiled_X8_isLaid rfl rfl rfl (by decide +kernel) ⟨Nat.le_of_ble_eq_true rfl, Nat.le_of_ble_eq_true rfl⟩) 8 1 rfl rfl rfl hl.1 rfl (Nat.le_of_ble_eq_true rfl) dX10_allBoiled_44 (fun H locs hw => ?_)
  obtain ⟨hg47, hf⟩ := gd_s hf
  refine zv_if_ne (tgt := 53) hx hb hg47 dX10_allBoiled_47 (by decide) (fun (c47 : ¬ (r44 = 0)) => ?_) (fun (c47 : r44 = 0) => ?_)
  · rw [if_neg c47] at hf
    refine lv_aload_n hx hb dX10_allBoiled_53 rfl (lv_at hl 0 rfl) ?_
    refine va_get (D := D) (ci := 10) (v := .ref (q 30)) (C := RX10) (T := TX10) (N := 13) hx hb hts (fun _ h => List.mem_cons_of_mem _ (List.mem_append_left _ (List.mem_append_left _ (List.mem_append_right _ h)))) hown hK hw.1 0 rfl rfl 8 (by decide) (hts (.fieldLink RX10 66 "EggThrones" "boiling" "LEggThrones$Boiling;") (List.mem_of_getElem? (i := 4) rfl)) (fun _ h9 => h9) rfl dX10_allBoiled_54 ?_
    refine lv_aload_n hx hb dX10_allBoiled_57 rfl (lv_at hl 0 rfl) ?_
    refine va_get (D := D) (ci := 10) (v := .ref (q 1)) (C := RX10) (T := TX10) (N := 13) hx hb hts (fun _ h => List.mem_cons_of_mem _ (List.mem_append_left _ (List.mem_append_left _ (List.mem_append_right _ h)))) hown hK hw.1 0 rfl rfl 1 (by decide) (hts (.fieldLink RX10 19 "EggThrones" "laid" "LEggThrones$Table;") (List.mem_of_getElem? (i := 1) rfl)) (fun _ h9 => h9) rfl dX10_allBoiled_58 ?_
    refine lv_iload_n hx hb dX10_allBoiled_61 rfl (lv_at hl 1 rfl) ?_
    obtain ⟨σ62, h62, hf⟩ := bd_s hf
    replace hf := bt_s hf
    refine gVv (As := [.ref (q 1), .int (zI x1)]) (rest := []) C hw (tX0_tryAll_c1 h62) (cwV 2 hts gX10_allBoiled_X0_tryAll rfl rfl rfl (by decide +kernel) ⟨Nat.le_of_ble_eq_true rfl, Nat.le_of_ble_eq_true rfl⟩) 0 30 rfl rfl rfl hl.1 rfl (Nat.le_of_ble_eq_true rfl) dX10_allBoiled_62 (fun H locs hw => ?_)
    refine lv_iload_n hx hb dX10_allBoiled_65 rfl (lv_at hl 3 rfl) ?_
    obtain ⟨hg66, hf⟩ := gd_s hf
    refine zv_if_eq (tgt := 79) hx hb hg66 dX10_allBoiled_66 (by decide) (fun (c66 : x3 = 0) => ?_) (fun (c66 : ¬ (x3 = 0)) => ?_)
    · rw [if_pos c66] at hf
      refine lv_aload_n hx hb dX10_allBoiled_79 rfl (lv_at hl 0 rfl) ?_
      refine va_get (D := D) (ci := 10) (v := .ref (q 30)) (C := RX10) (T := TX10) (N := 13) hx hb hts (fun _ h => List.mem_cons_of_mem _ (List.mem_append_left _ (List.mem_append_left _ (List.mem_append_right _ h)))) hown hK hw.1 0 rfl rfl 8 (by decide) (hts (.fieldLink RX10 66 "EggThrones" "boiling" "LEggThrones$Boiling;") (List.mem_of_getElem? (i := 4) rfl)) (fun _ h9 => h9) rfl dX10_allBoiled_80 ?_
      refine lv_iload_n hx hb dX10_allBoiled_83 rfl (lv_at hl 2 rfl) ?_
      obtain ⟨r84, h84, hf⟩ := bd_s hf
      replace hf := bt_s hf
      refine gVi (As := [.int (zI x2)]) (rest := []) C hw (tX0_placeOf h84) (cwV 1 hts gX10_allBoiled_X0_placeOf rfl rfl rfl (by decide +kernel) ⟨Nat.le_of_ble_eq_true rfl, Nat.le_of_ble_eq_true rfl⟩) 0 30 rfl rfl rfl hl.1 rfl (Nat.le_of_ble_eq_true rfl) dX10_allBoiled_84 (fun H locs hw => ?_)
      cases hf
      exact hret H locs ls 87 dX10_allBoiled_87 hw
    · rw [if_neg c66] at hf
      refine lv_aload_n hx hb dX10_allBoiled_69 rfl (lv_at hl 0 rfl) ?_
      refine va_get (D := D) (ci := 10) (v := .ref (q 30)) (C := RX10) (T := TX10) (N := 13) hx hb hts (fun _ h => List.mem_cons_of_mem _ (List.mem_append_left _ (List.mem_append_left _ (List.mem_append_right _ h)))) hown hK hw.1 0 rfl rfl 8 (by decide) (hts (.fieldLink RX10 66 "EggThrones" "boiling" "LEggThrones$Boiling;") (List.mem_of_getElem? (i := 4) rfl)) (fun _ h9 => h9) rfl dX10_allBoiled_70 ?_
      obtain ⟨r73, h73, hf⟩ := bd_s hf
      replace hf := bt_s hf
      refine gVi (As := []) (rest := []) C hw (tX0_fewest h73) (cwV 0 hts gX10_allBoiled_X0_fewest rfl rfl rfl (by decide +kernel) ⟨Nat.le_of_ble_eq_true rfl, Nat.le_of_ble_eq_true rfl⟩) 0 30 rfl rfl rfl hl.1 rfl (Nat.le_of_ble_eq_true rfl) dX10_allBoiled_73 (fun H locs hw => ?_)
      refine lv_goto (tgt := 87) hx hb dX10_allBoiled_76 (by decide) ?_
      cases hf
      exact hret H locs ls 87 dX10_allBoiled_87 hw
  · rw [if_pos c47] at hf
    refine zv_ldc hx hb (-1000000003) (by decide +kernel) hown (hts (.constant RX10 219 (-1000000003)) (List.mem_of_getElem? (i := 3) rfl)) dX10_allBoiled_50 ?_
    cases hf
    exact hret H locs ls 52 dX10_allBoiled_52 hw
set_option maxHeartbeats 4000000 in
set_option maxRecDepth 100000 in
theorem wX10_allBoiled_10 {p : Program} {l : Launch} {e : Env} {s : State} {m : MethodId} {args : Array Value} {below : List Frame} {meth : Method} {c : Code} {D : va_G} {A : Nat → Prop} {q : Nat → Nat} {cI cZ : ClassId} {Q : State → Prop} {r : Int} {τ : St} (C : Cx p s m args meth c D (TY cI cZ) cX10_allBoiled (some .int) 4 wsX10_allBoiled RX10) (hret : RtI p l e rmX10_allBoiled s m args below meth c D A cX10_allBoiled Q (wE q cI cZ τ) (zI r)) :
    ∀ (σ : St) (x1 : Int) (x2 : Int) (t0 : Int) (H : Heap) (locs : List Loc) (ls : Array Slot), Wd D A s (wE q cI cZ σ) H locs → lv_has ls 4 [(0, .ref (q 0)), (1, .int (zI x1)), (2, .int (zI x2))] → pX10_allBoiled_10 σ x1 x2 t0 = some (r, τ) → W p l e rmX10_allBoiled s m args below meth c H locs 0 0 Q (F0 m 10 ls [.int (zI t0)]) := by
  obtain ⟨hx, hb, hr, hml, hown, hts, hlk, hK, hN⟩ := id C
  intro σ x1 x2 t0 H locs ls hw hl hf
  rw [pX10_allBoiled_10] at hf
  refine lv_istore_n (lv' := [(3, .int (zI t0)), (0, .ref (q 0)), (1, .int (zI x1)), (2, .int (zI x2))]) hx hb dX10_allBoiled_10 rfl hl (by decide) rfl (fun ls hl => ?_)
  refine lv_aload_n hx hb dX10_allBoiled_11 rfl (lv_at hl 1 rfl) ?_
  refine va_get (D := D) (ci := 10) (v := .ref (q 1)) (C := RX10) (T := TX10) (N := 13) hx hb hts (fun _ h => List.mem_cons_of_mem _ (List.mem_append_left _ (List.mem_append_left _ (List.mem_append_right _ h)))) hown hK hw.1 0 rfl rfl 1 (by decide) (hts (.fieldLink RX10 19 "EggThrones" "laid" "LEggThrones$Table;") (List.mem_of_getElem? (i := 1) rfl)) (fun _ h9 => h9) rfl dX10_allBoiled_12 ?_
  refine lv_iload_n hx hb dX10_allBoiled_15 rfl (lv_at hl 2 rfl) ?_
  obtain ⟨r16, h16, hf⟩ := bd_s hf
  replace hf := bt_s hf
  refine gVi (As := [.int (zI x1)]) (rest := []) C hw (tX8_hasEggs_c1 h16) (cwV 1 hts gX10_allBoiled_X8_hasEggs rfl rfl rfl (by decide +kernel) ⟨Nat.le_of_ble_eq_true rfl, Nat.le_of_ble_eq_true rfl⟩) 8 1 rfl rfl rfl hl.1 rfl (Nat.le_of_ble_eq_true rfl) dX10_allBoiled_16 (fun H locs hw => ?_)
  obtain ⟨hg19, hf⟩ := gd_s hf
  refine zv_if_eq (tgt := 37) hx hb hg19 dX10_allBoiled_19 (by decide) (fun (c19 : r16 = 0) => ?_) (fun (c19 : ¬ (r16 = 0)) => ?_)
  · rw [if_pos c19] at hf
    refine zv_ldc hx hb (-1000000001) (by decide +kernel) hown (hts (.constant RX10 175 (-1000000001)) (List.mem_of_getElem? (i := 2) rfl)) dX10_allBoiled_37 ?_
    cases hf
    exact hret H locs ls 39 dX10_allBoiled_39 hw
  · rw [if_neg c19] at hf
    refine lv_iload_n hx hb dX10_allBoiled_22 rfl (lv_at hl 0 rfl) ?_
    obtain ⟨hg23, hf⟩ := gd_s hf
    refine zv_if_ne (tgt := 40) hx hb hg23 dX10_allBoiled_23 (by decide) (fun (c23 : ¬ (t0 = 0)) => ?_) (fun (c23 : t0 = 0) => ?_)
    · rw [if_neg c23] at hf
      exact wX10_allBoiled_40 C hret σ x1 x2 t0 H locs ls hw (lv_sub hl [1, 2, 3, 0] rfl) hf
    · rw [if_pos c23] at hf
      refine lv_aload_n hx hb dX10_allBoiled_26 rfl (lv_at hl 1 rfl) ?_
      refine va_get (D := D) (ci := 10) (v := .ref (q 1)) (C := RX10) (T := TX10) (N := 13) hx hb hts (fun _ h => List.mem_cons_of_mem _ (List.mem_append_left _ (List.mem_append_left _ (List.mem_append_right _ h)))) hown hK hw.1 0 rfl rfl 1 (by decide) (hts (.fieldLink RX10 19 "EggThrones" "laid" "LEggThrones$Table;") (List.mem_of_getElem? (i := 1) rfl)) (fun _ h9 => h9) rfl dX10_allBoiled_27 ?_
      refine lv_iload_n hx hb dX10_allBoiled_30 rfl (lv_at hl 3 rfl) ?_
      obtain ⟨r31, h31, hf⟩ := bd_s hf
      replace hf := bt_s hf
      refine gVi (As := [.int (zI x2)]) (rest := []) C hw (tX8_hasEgg_c1 h31) (cwV 1 hts gX10_allBoiled_X8_hasEgg rfl rfl rfl (by decide +kernel) ⟨Nat.le_of_ble_eq_true rfl, Nat.le_of_ble_eq_true rfl⟩) 8 1 rfl rfl rfl hl.1 rfl (Nat.le_of_ble_eq_true rfl) dX10_allBoiled_31 (fun H locs hw => ?_)
      obtain ⟨hg34, hf⟩ := gd_s hf
      refine zv_if_ne (tgt := 40) hx hb hg34 dX10_allBoiled_34 (by decide) (fun (c34 : ¬ (r31 = 0)) => ?_) (fun (c34 : r31 = 0) => ?_)
      · rw [if_neg c34] at hf
        exact wX10_allBoiled_40 C hret σ x1 x2 t0 H locs ls hw (lv_sub hl [1, 2, 3, 0] rfl) hf
      · rw [if_pos c34] at hf
        refine zv_ldc hx hb (-1000000001) (by decide +kernel) hown (hts (.constant RX10 175 (-1000000001)) (List.mem_of_getElem? (i := 2) rfl)) dX10_allBoiled_37 ?_
        cases hf
        exact hret H locs ls 39 dX10_allBoiled_39 hw
set_option maxHeartbeats 4000000 in
set_option maxRecDepth 100000 in
theorem wX10_allBoiled_0 {p : Program} {l : Launch} {e : Env} {s : State} {m : MethodId} {args : Array Value} {below : List Frame} {meth : Method} {c : Code} {D : va_G} {A : Nat → Prop} {q : Nat → Nat} {cI cZ : ClassId} {Q : State → Prop} {r : Int} {τ : St} (C : Cx p s m args meth c D (TY cI cZ) cX10_allBoiled (some .int) 4 wsX10_allBoiled RX10) (hret : RtI p l e rmX10_allBoiled s m args below meth c D A cX10_allBoiled Q (wE q cI cZ τ) (zI r)) :
    ∀ (σ : St) (x1 : Int) (x2 : Int) (H : Heap) (locs : List Loc) (ls : Array Slot), Wd D A s (wE q cI cZ σ) H locs → lv_has ls 4 [(0, .ref (q 0)), (1, .int (zI x1)), (2, .int (zI x2))] → pX10_allBoiled_0 σ x1 x2 = some (r, τ) → W p l e rmX10_allBoiled s m args below meth c H locs 0 0 Q (F0 m 0 ls []) := by
  obtain ⟨hx, hb, hr, hml, hown, hts, hlk, hK, hN⟩ := id C
  intro σ x1 x2 H locs ls hw hl hf
  rw [pX10_allBoiled_0] at hf
  refine lv_iload_n hx hb dX10_allBoiled_0 rfl (lv_at hl 2 rfl) ?_
  refine lv_iconst (v := zI (-1)) hx hb dX10_allBoiled_1 rfl ?_
  obtain ⟨hg2, hf⟩ := gd_s hf
  refine zv_icmp_ne (tgt := 9) hx hb ⟨hg2, by decide⟩ dX10_allBoiled_2 (by decide) (fun (c2 : ¬ (x2 = (-1))) => ?_) (fun (c2 : x2 = (-1)) => ?_)
  · rw [if_neg c2] at hf
    refine lv_iconst (v := zI 0) hx hb dX10_allBoiled_9 rfl ?_
    exact wX10_allBoiled_10 C hret σ x1 x2 0 H locs ls hw (lv_sub hl [0, 1, 2] rfl) hf
  · rw [if_pos c2] at hf
    refine lv_iconst (v := zI 1) hx hb dX10_allBoiled_5 rfl ?_
    refine lv_goto (tgt := 10) hx hb dX10_allBoiled_6 (by decide) ?_
    exact wX10_allBoiled_10 C hret σ x1 x2 1 H locs ls hw (lv_sub hl [0, 1, 2] rfl) hf
set_option maxHeartbeats 4000000 in
set_option maxRecDepth 100000 in
theorem tX10_allBoiled {l : Launch} {D : va_G} {A : Nat → Prop} {cI cZ : ClassId} {q : Nat → Nat} {σ : St} {x1 : Int} {x2 : Int} {r : Int} {τ : St} (hf : pX10_allBoiled σ x1 x2 = some (r, τ)) : Met l yX10_allBoiled wsX10_allBoiled rmX10_allBoiled (va_Pc [.ref (q 0), .int (zI x1), .int (zI x2)] (CX D (TY cI cZ) A (wE q cI cZ σ))) (QI D (TY cI cZ) A (wE q cI cZ τ) (zI r)) 0 0 A := by
  refine opn (cc := cX10_allBoiled) (maxL := 4) (ret := (some .int)) (by decide) rfl (Nat.le_of_ble_eq_true rfl) (fun p e s m below meth c C ls hw hl => ?_)
  have hl : lv_has ls 4 [(0, .ref (q 0)), (1, .int (zI x1)), (2, .int (zI x2))] := hl
  rw [pX10_allBoiled] at hf
  exact wX10_allBoiled_0 C (rtI C) σ x1 x2 _ _ ls hw (lv_sub hl [0, 1, 2] rfl) hf
abbrev rmX11_has : Room := { frames := 0, cells := 0, slots := 0, locals := 0 }
set_option maxHeartbeats 4000000 in
set_option maxRecDepth 100000 in
theorem wX11_has_0 {p : Program} {l : Launch} {e : Env} {s : State} {m : MethodId} {args : Array Value} {below : List Frame} {meth : Method} {c : Code} {D : va_G} {A : Nat → Prop} {w : va_W} {cI cZ : ClassId} {Q : State → Prop} {r : Int} (C : Cx p s m args meth c D (TY cI cZ) cX11_has (some .boolean) 2 wsX11_has RX11) (hret : RtZ p l e rmX11_has s m args below meth c D A cX11_has Q (w) (zI r)) :
    ∀ (x0 : Int) (x1 : Int) (H : Heap) (locs : List Loc) (ls : Array Slot), Wd D A s (w) H locs → lv_has ls 2 [(0, .int (zI x0)), (1, .int (zI x1))] → pX11_has_0 x0 x1 = some r → W p l e rmX11_has s m args below meth c H locs 0 0 Q (F0 m 0 ls []) := by
  obtain ⟨hx, hb, hr, hml, hown, hts, hlk, hK, hN⟩ := id C
  intro x0 x1 H locs ls hw hl hf
  rw [pX11_has_0] at hf
  refine lv_iload_n hx hb dX11_has_0 rfl (lv_at hl 0 rfl) ?_
  refine lv_iload_n hx hb dX11_has_1 rfl (lv_at hl 1 rfl) ?_
  refine zv_ishr hx hb dX11_has_2 ?_
  refine lv_iconst (v := zI 1) hx hb dX11_has_3 rfl ?_
  refine zv_iand hx hb dX11_has_4 ?_
  refine lv_iconst (v := zI 1) hx hb dX11_has_5 rfl ?_
  obtain ⟨hg6, hf⟩ := gd_s hf
  refine zv_icmp_ne (tgt := 13) hx hb ⟨hg6, by decide⟩ dX11_has_6 (by decide) (fun (c6 : ¬ ((zAnd (zShr x0 x1) 1) = 1)) => ?_) (fun (c6 : (zAnd (zShr x0 x1) 1) = 1) => ?_)
  · rw [if_neg c6] at hf
    refine lv_iconst (v := zI 0) hx hb dX11_has_13 rfl ?_
    cases hf
    exact hret H locs ls 14 dX11_has_14 (by decide +kernel) hw
  · rw [if_pos c6] at hf
    refine lv_iconst (v := zI 1) hx hb dX11_has_9 rfl ?_
    refine lv_goto (tgt := 14) hx hb dX11_has_10 (by decide) ?_
    cases hf
    exact hret H locs ls 14 dX11_has_14 (by decide +kernel) hw
set_option maxHeartbeats 4000000 in
set_option maxRecDepth 100000 in
theorem tX11_has {l : Launch} {D : va_G} {A : Nat → Prop} {cI cZ : ClassId} {w : va_W} {x0 : Int} {x1 : Int} {r : Int} (hf : pX11_has x0 x1 = some r) : Met l yX11_has wsX11_has rmX11_has (va_Pc [.int (zI x0), .int (zI x1)] (CX D (TY cI cZ) A (w))) (QI D (TY cI cZ) A (w) (zI r)) 0 0 A := by
  refine opn (cc := cX11_has) (maxL := 2) (ret := (some .boolean)) (by decide) rfl (Nat.le_of_ble_eq_true rfl) (fun p e s m below meth c C ls hw hl => ?_)
  have hl : lv_has ls 2 [(0, .int (zI x0)), (1, .int (zI x1))] := hl
  rw [pX11_has] at hf
  exact wX11_has_0 C (rtZ C) x0 x1 _ _ ls hw (lv_sub hl [0, 1] rfl) hf
abbrev rmX11_placeBy : Room := { frames := 1, cells := 0, slots := 0, locals := 21 }
set_option maxHeartbeats 4000000 in
set_option maxRecDepth 100000 in
theorem wX11_placeBy_124 {p : Program} {l : Launch} {e : Env} {s : State} {m : MethodId} {args : Array Value} {below : List Frame} {meth : Method} {c : Code} {D : va_G} {A : Nat → Prop} {q : Nat → Nat} {cI cZ : ClassId} {Q : State → Prop} {r : Int} {τ : St} (C : Cx p s m args meth c D (TY cI cZ) cX11_placeBy (some .int) 6 wsX11_placeBy RX11) (hret : RtI p l e rmX11_placeBy s m args below meth c D A cX11_placeBy Q (wM q cI cZ τ) (zI r)) (k36 : St → Int → Int → Int → Int → Option (Int × St)) (hk36 : ∀ (σ : St) (x2 : Int) (x3 : Int) (x4 : Int) (x5 : Int) (H : Heap) (locs : List Loc) (ls : Array Slot), Wd D A s (wM q cI cZ σ) H locs → lv_has ls 6 [(0, .ref (q 0)), (2, .int (zI x2)), (3, .int (zI x3)), (4, .int (zI x4)), (5, .int (zI x5))] → k36 σ x2 x3 x4 x5 = some (r, τ) → W p l e rmX11_placeBy s m args below meth c H locs 0 0 Q (F0 m 36 ls [])) :
    ∀ (σ : St) (x2 : Int) (x3 : Int) (x4 : Int) (x5 : Int) (t1 : Int) (t2 : Int) (t3 : Int) (H : Heap) (locs : List Loc) (ls : Array Slot), Wd D A s (wM q cI cZ σ) H locs → lv_has ls 6 [(0, .ref (q 0)), (2, .int (zI x2)), (3, .int (zI x3)), (4, .int (zI x4)), (5, .int (zI x5))] → pX11_placeBy_124 k36 σ x2 x3 x4 x5 t1 t2 t3 = some (r, τ) → W p l e rmX11_placeBy s m args below meth c H locs 0 0 Q (F0 m 124 ls [.int (zI t3), .int (zI t2), .int (zI t1), .ref (q 16)]) := by
  obtain ⟨hx, hb, hr, hml, hown, hts, hlk, hK, hN⟩ := id C
  intro σ x2 x3 x4 x5 t1 t2 t3 H locs ls hw hl hf
  rw [pX11_placeBy_124] at hf
  refine zv_iadd hx hb dX11_placeBy_124 ?_
  obtain ⟨hi125, hf⟩ := gd_s hf
  refine zv_iast (D := D) hx hb hK hw.1 hw.2.1 hw.2.2 16 0 rfl rfl hi125 (by decide) dX11_placeBy_125 (fun H locs hP hD hS => ?_)
  have hw : Wd D A s (wM q cI cZ (sA σ 15 (va_up (σ.2 15) (Int.toNat t1) (t2 + t3)))) H locs := wdaM_15 hP hD hS
  obtain ⟨σ125, e125, hf⟩ := nm_s hf
  replace hf := bt_s hf
  rw [← e125] at hw
  refine lv_iinc (v := zI (x5 + (-1))) (lv' := [(5, .int (zI (x5 + (-1)))), (0, .ref (q 0)), (2, .int (zI x2)), (3, .int (zI x3)), (4, .int (zI x4))]) hx hb dX11_placeBy_126 hl (k := 4) rfl (zI_add _ _) (by decide) rfl (fun ls hl => ?_)
  refine lv_goto (tgt := 36) hx hb dX11_placeBy_129 (by decide) ?_
  exact hk36 σ125 x2 x3 x4 (x5 + (-1)) H locs ls hw (lv_sub hl [1, 2, 3, 4, 0] rfl) hf
set_option maxHeartbeats 4000000 in
set_option maxRecDepth 100000 in
theorem wX11_placeBy_91 {p : Program} {l : Launch} {e : Env} {s : State} {m : MethodId} {args : Array Value} {below : List Frame} {meth : Method} {c : Code} {D : va_G} {A : Nat → Prop} {q : Nat → Nat} {cI cZ : ClassId} {Q : State → Prop} {r : Int} {τ : St} (C : Cx p s m args meth c D (TY cI cZ) cX11_placeBy (some .int) 6 wsX11_placeBy RX11) (hret : RtI p l e rmX11_placeBy s m args below meth c D A cX11_placeBy Q (wM q cI cZ τ) (zI r)) (k36 : St → Int → Int → Int → Int → Option (Int × St)) (hk36 : ∀ (σ : St) (x2 : Int) (x3 : Int) (x4 : Int) (x5 : Int) (H : Heap) (locs : List Loc) (ls : Array Slot), Wd D A s (wM q cI cZ σ) H locs → lv_has ls 6 [(0, .ref (q 0)), (2, .int (zI x2)), (3, .int (zI x3)), (4, .int (zI x4)), (5, .int (zI x5))] → k36 σ x2 x3 x4 x5 = some (r, τ) → W p l e rmX11_placeBy s m args below meth c H locs 0 0 Q (F0 m 36 ls [])) :
    ∀ (σ : St) (x2 : Int) (x3 : Int) (x4 : Int) (x5 : Int) (H : Heap) (locs : List Loc) (ls : Array Slot), Wd D A s (wM q cI cZ σ) H locs → lv_has ls 6 [(0, .ref (q 0)), (2, .int (zI x2)), (3, .int (zI x3)), (4, .int (zI x4)), (5, .int (zI x5))] → pX11_placeBy_91 k36 σ x2 x3 x4 x5 = some (r, τ) → W p l e rmX11_placeBy s m args below meth c H locs 0 0 Q (F0 m 91 ls []) := by
  obtain ⟨hx, hb, hr, hml, hown, hts, hlk, hK, hN⟩ := id C
  intro σ x2 x3 x4 x5 H locs ls hw hl hf
  rw [pX11_placeBy_91] at hf
  refine lv_aload_n hx hb dX11_placeBy_91 rfl (lv_at hl 0 rfl) ?_
  refine va_get (D := D) (ci := 11) (v := .ref (q 16)) (C := RX11) (T := TX11) (N := 40) hx hb hts (fun _ h => List.mem_cons_of_mem _ (List.mem_append_right _ h)) hown hK hw.1 0 rfl rfl 28 (by decide) (hts (.fieldLink RX11 59 "EggThronesModel" "loads" "[I") (List.mem_of_getElem? (i := 1) rfl)) (fun _ h9 => h9) rfl dX11_placeBy_92 ?_
  refine lv_aload_n hx hb dX11_placeBy_95 rfl (lv_at hl 0 rfl) ?_
  refine va_get (D := D) (ci := 11) (v := .ref (q 14)) (C := RX11) (T := TX11) (N := 40) hx hb hts (fun _ h => List.mem_cons_of_mem _ (List.mem_append_right _ h)) hown hK hw.1 0 rfl rfl 26 (by decide) (hts (.fieldLink RX11 53 "EggThronesModel" "places" "[I") (List.mem_of_getElem? (i := 3) rfl)) (fun _ h9 => h9) rfl dX11_placeBy_96 ?_
  refine lv_iload hx hb dX11_placeBy_99 (lv_at hl 4 rfl) ?_
  obtain ⟨hi101, hf⟩ := gd_s hf
  refine zv_iald (D := D) hx hb hK hw.1 14 0 rfl rfl hi101 (by decide) dX11_placeBy_101 ?_
  refine lv_dup2_11 hx hb dX11_placeBy_102 rfl rfl ?_
  obtain ⟨hi103, hf⟩ := gd_s hf
  refine zv_iald (D := D) hx hb hK hw.1 16 0 rfl rfl hi103 (by decide) dX11_placeBy_103 ?_
  refine lv_iload_n hx hb dX11_placeBy_104 rfl (lv_at hl 1 rfl) ?_
  refine lv_iload hx hb dX11_placeBy_105 (lv_at hl 4 rfl) ?_
  obtain ⟨r107, h107, hf⟩ := bd_s hf
  replace hf := bt_s hf
  refine gSi (As := [.int (zI x2), .int (zI x5)]) (rest := [.int (zI (σ.2 15 (Int.toNat (σ.2 13 (Int.toNat x5))))), .int (zI (σ.2 13 (Int.toNat x5))), .ref (q 16)]) C hw (tX11_has h107) (va_cwS 2 hts gX11_placeBy_X11_has rfl rfl rfl (by decide +kernel) ⟨Nat.le_of_ble_eq_true rfl, Nat.le_of_ble_eq_true rfl⟩) rfl hl.1 rfl (Nat.le_of_ble_eq_true rfl) dX11_placeBy_107 (fun H locs hw => ?_)
  obtain ⟨hg110, hf⟩ := gd_s hf
  refine zv_if_eq (tgt := 123) hx hb hg110 dX11_placeBy_110 (by decide) (fun (c110 : r107 = 0) => ?_) (fun (c110 : ¬ (r107 = 0)) => ?_)
  · rw [if_pos c110] at hf
    refine lv_iconst (v := zI 0) hx hb dX11_placeBy_123 rfl ?_
    exact wX11_placeBy_124 C hret _ hk36 σ x2 x3 x4 x5 (σ.2 13 (Int.toNat x5)) (σ.2 15 (Int.toNat (σ.2 13 (Int.toNat x5)))) 0 H locs ls hw (lv_sub hl [0, 1, 2, 3, 4] rfl) hf
  · rw [if_neg c110] at hf
    refine lv_aload_n hx hb dX11_placeBy_113 rfl (lv_at hl 0 rfl) ?_
    refine va_get (D := D) (ci := 11) (v := .ref (q 5)) (C := RX11) (T := TX11) (N := 40) hx hb hts (fun _ h => List.mem_cons_of_mem _ (List.mem_append_right _ h)) hown hK hw.1 0 rfl rfl 8 (by decide) (hts (.fieldLink RX11 22 "EggThronesModel" "wishes" "[I") (List.mem_of_getElem? (i := 6) rfl)) (fun _ h9 => h9) rfl dX11_placeBy_114 ?_
    refine lv_iload hx hb dX11_placeBy_117 (lv_at hl 4 rfl) ?_
    obtain ⟨hi119, hf⟩ := gd_s hf
    refine zv_iald (D := D) hx hb hK hw.1 5 0 rfl rfl hi119 (by decide) dX11_placeBy_119 ?_
    refine lv_goto (tgt := 124) hx hb dX11_placeBy_120 (by decide) ?_
    exact wX11_placeBy_124 C hret _ hk36 σ x2 x3 x4 x5 (σ.2 13 (Int.toNat x5)) (σ.2 15 (Int.toNat (σ.2 13 (Int.toNat x5)))) (σ.2 4 (Int.toNat x5)) H locs ls hw (lv_sub hl [0, 1, 2, 3, 4] rfl) hf
set_option maxHeartbeats 4000000 in
set_option maxRecDepth 100000 in
theorem wX11_placeBy_165 {p : Program} {l : Launch} {e : Env} {s : State} {m : MethodId} {args : Array Value} {below : List Frame} {meth : Method} {c : Code} {D : va_G} {A : Nat → Prop} {q : Nat → Nat} {cI cZ : ClassId} {Q : State → Prop} {r : Int} {τ : St} (C : Cx p s m args meth c D (TY cI cZ) cX11_placeBy (some .int) 6 wsX11_placeBy RX11) (hret : RtI p l e rmX11_placeBy s m args below meth c D A cX11_placeBy Q (wM q cI cZ τ) (zI r)) (k135 : St → Int → Int → Option (Int × St)) (hk135 : ∀ (σ : St) (x4 : Int) (x5 : Int) (H : Heap) (locs : List Loc) (ls : Array Slot), Wd D A s (wM q cI cZ σ) H locs → lv_has ls 6 [(0, .ref (q 0)), (4, .int (zI x4)), (5, .int (zI x5))] → k135 σ x4 x5 = some (r, τ) → W p l e rmX11_placeBy s m args below meth c H locs 0 0 Q (F0 m 135 ls [])) :
    ∀ (σ : St) (x5 : Int) (t0 : Int) (H : Heap) (locs : List Loc) (ls : Array Slot), Wd D A s (wM q cI cZ σ) H locs → lv_has ls 6 [(0, .ref (q 0)), (5, .int (zI x5))] → pX11_placeBy_165 k135 σ x5 t0 = some (r, τ) → W p l e rmX11_placeBy s m args below meth c H locs 0 0 Q (F0 m 165 ls [.int (zI t0)]) := by
  obtain ⟨hx, hb, hr, hml, hown, hts, hlk, hK, hN⟩ := id C
  intro σ x5 t0 H locs ls hw hl hf
  rw [pX11_placeBy_165] at hf
  refine lv_istore (lv' := [(4, .int (zI t0)), (0, .ref (q 0)), (5, .int (zI x5))]) hx hb dX11_placeBy_165 hl (by decide) rfl (fun ls hl => ?_)
  refine lv_iinc (v := zI (x5 + 1)) (lv' := [(5, .int (zI (x5 + 1))), (4, .int (zI t0)), (0, .ref (q 0))]) hx hb dX11_placeBy_167 hl (k := 2) rfl (zI_add _ _) (by decide) rfl (fun ls hl => ?_)
  refine lv_goto (tgt := 135) hx hb dX11_placeBy_170 (by decide) ?_
  exact hk135 σ t0 (x5 + 1) H locs ls hw (lv_sub hl [2, 1, 0] rfl) hf
set_option maxHeartbeats 4000000 in
set_option maxRecDepth 100000 in
theorem wX11_placeBy_135 {p : Program} {l : Launch} {e : Env} {s : State} {m : MethodId} {args : Array Value} {below : List Frame} {meth : Method} {c : Code} {D : va_G} {A : Nat → Prop} {q : Nat → Nat} {cI cZ : ClassId} {Q : State → Prop} {r : Int} {τ : St} (C : Cx p s m args meth c D (TY cI cZ) cX11_placeBy (some .int) 6 wsX11_placeBy RX11) (hret : RtI p l e rmX11_placeBy s m args below meth c D A cX11_placeBy Q (wM q cI cZ τ) (zI r)) :
    ∀ (n : Nat) (σ : St) (x4 : Int) (x5 : Int) (H : Heap) (locs : List Loc) (ls : Array Slot), Wd D A s (wM q cI cZ σ) H locs → lv_has ls 6 [(0, .ref (q 0)), (4, .int (zI x4)), (5, .int (zI x5))] → pX11_placeBy_135 n σ x4 x5 = some (r, τ) → W p l e rmX11_placeBy s m args below meth c H locs 0 0 Q (F0 m 135 ls []) := by
  obtain ⟨hx, hb, hr, hml, hown, hts, hlk, hK, hN⟩ := id C
  intro n
  induction n with
  | zero =>
    intro σ x4 x5 H locs ls hw hl hf
    exact absurd (show (none : Option (Int × St)) = some (r, τ) from hf) (by simp)
  | succ n ih =>
    intro σ x4 x5 H locs ls hw hl hf
    rw [pX11_placeBy_135] at hf
    refine lv_iload hx hb dX11_placeBy_135 (lv_at hl 2 rfl) ?_
    refine lv_iconst (v := zI 3) hx hb dX11_placeBy_137 rfl ?_
    obtain ⟨hg138, hf⟩ := gd_s hf
    refine zv_icmp_ge (tgt := 173) hx hb ⟨hg138, by decide⟩ dX11_placeBy_138 (by decide) (fun (c138 : 3 ≤ x5) => ?_) (fun (c138 : ¬ (3 ≤ x5)) => ?_)
    · rw [if_pos c138] at hf
      refine lv_iload hx hb dX11_placeBy_173 (lv_at hl 1 rfl) ?_
      cases hf
      exact hret H locs ls 175 dX11_placeBy_175 hw
    · rw [if_neg c138] at hf
      refine lv_aload_n hx hb dX11_placeBy_141 rfl (lv_at hl 0 rfl) ?_
      refine va_get (D := D) (ci := 11) (v := .ref (q 16)) (C := RX11) (T := TX11) (N := 40) hx hb hts (fun _ h => List.mem_cons_of_mem _ (List.mem_append_right _ h)) hown hK hw.1 0 rfl rfl 28 (by decide) (hts (.fieldLink RX11 59 "EggThronesModel" "loads" "[I") (List.mem_of_getElem? (i := 1) rfl)) (fun _ h9 => h9) rfl dX11_placeBy_142 ?_
      refine lv_iload hx hb dX11_placeBy_145 (lv_at hl 2 rfl) ?_
      obtain ⟨hi147, hf⟩ := gd_s hf
      refine zv_iald (D := D) hx hb hK hw.1 16 0 rfl rfl hi147 (by decide) dX11_placeBy_147 ?_
      refine lv_iload hx hb dX11_placeBy_148 (lv_at hl 1 rfl) ?_
      obtain ⟨hg150, hf⟩ := gd_s hf
      refine zv_icmp_le (tgt := 163) hx hb hg150 dX11_placeBy_150 (by decide) (fun (c150 : (σ.2 15 (Int.toNat x5)) ≤ x4) => ?_) (fun (c150 : ¬ ((σ.2 15 (Int.toNat x5)) ≤ x4)) => ?_)
      · rw [if_pos c150] at hf
        refine lv_iload hx hb dX11_placeBy_163 (lv_at hl 1 rfl) ?_
        exact wX11_placeBy_165 C hret _ ih σ x5 x4 H locs ls hw (lv_sub hl [0, 2] rfl) hf
      · rw [if_neg c150] at hf
        refine lv_aload_n hx hb dX11_placeBy_153 rfl (lv_at hl 0 rfl) ?_
        refine va_get (D := D) (ci := 11) (v := .ref (q 16)) (C := RX11) (T := TX11) (N := 40) hx hb hts (fun _ h => List.mem_cons_of_mem _ (List.mem_append_right _ h)) hown hK hw.1 0 rfl rfl 28 (by decide) (hts (.fieldLink RX11 59 "EggThronesModel" "loads" "[I") (List.mem_of_getElem? (i := 1) rfl)) (fun _ h9 => h9) rfl dX11_placeBy_154 ?_
        refine lv_iload hx hb dX11_placeBy_157 (lv_at hl 2 rfl) ?_
        obtain ⟨hi159, hf⟩ := gd_s hf
        refine zv_iald (D := D) hx hb hK hw.1 16 0 rfl rfl hi159 (by decide) dX11_placeBy_159 ?_
        refine lv_goto (tgt := 165) hx hb dX11_placeBy_160 (by decide) ?_
        exact wX11_placeBy_165 C hret _ ih σ x5 (σ.2 15 (Int.toNat x5)) H locs ls hw (lv_sub hl [0, 2] rfl) hf
set_option maxHeartbeats 4000000 in
set_option maxRecDepth 100000 in
theorem wX11_placeBy_36 {p : Program} {l : Launch} {e : Env} {s : State} {m : MethodId} {args : Array Value} {below : List Frame} {meth : Method} {c : Code} {D : va_G} {A : Nat → Prop} {q : Nat → Nat} {cI cZ : ClassId} {Q : State → Prop} {r : Int} {τ : St} (C : Cx p s m args meth c D (TY cI cZ) cX11_placeBy (some .int) 6 wsX11_placeBy RX11) (hret : RtI p l e rmX11_placeBy s m args below meth c D A cX11_placeBy Q (wM q cI cZ τ) (zI r)) :
    ∀ (n : Nat) (σ : St) (x2 : Int) (x3 : Int) (x4 : Int) (x5 : Int) (H : Heap) (locs : List Loc) (ls : Array Slot), Wd D A s (wM q cI cZ σ) H locs → lv_has ls 6 [(0, .ref (q 0)), (2, .int (zI x2)), (3, .int (zI x3)), (4, .int (zI x4)), (5, .int (zI x5))] → pX11_placeBy_36 n σ x2 x3 x4 x5 = some (r, τ) → W p l e rmX11_placeBy s m args below meth c H locs 0 0 Q (F0 m 36 ls []) := by
  obtain ⟨hx, hb, hr, hml, hown, hts, hlk, hK, hN⟩ := id C
  intro n
  induction n with
  | zero =>
    intro σ x2 x3 x4 x5 H locs ls hw hl hf
    exact absurd (show (none : Option (Int × St)) = some (r, τ) from hf) (by simp)
  | succ n ih =>
    intro σ x2 x3 x4 x5 H locs ls hw hl hf
    rw [pX11_placeBy_36] at hf
    refine lv_iload hx hb dX11_placeBy_36 (lv_at hl 4 rfl) ?_
    obtain ⟨hg38, hf⟩ := gd_s hf
    refine zv_if_lt (tgt := 132) hx hb hg38 dX11_placeBy_38 (by decide) (fun (c38 : x5 < 0) => ?_) (fun (c38 : ¬ (x5 < 0)) => ?_)
    · rw [if_pos c38] at hf
      refine lv_iconst (v := zI 0) hx hb dX11_placeBy_132 rfl ?_
      refine lv_istore (lv' := [(5, .int (zI 0)), (0, .ref (q 0)), (2, .int (zI x2)), (3, .int (zI x3)), (4, .int (zI x4))]) hx hb dX11_placeBy_133 hl (by decide) rfl (fun ls hl => ?_)
      exact wX11_placeBy_135 C hret FU σ x4 0 H locs ls hw (lv_sub hl [1, 4, 0] rfl) hf
    · rw [if_neg c38] at hf
      refine lv_aload_n hx hb dX11_placeBy_41 rfl (lv_at hl 0 rfl) ?_
      refine va_get (D := D) (ci := 11) (v := .ref (q 14)) (C := RX11) (T := TX11) (N := 40) hx hb hts (fun _ h => List.mem_cons_of_mem _ (List.mem_append_right _ h)) hown hK hw.1 0 rfl rfl 26 (by decide) (hts (.fieldLink RX11 53 "EggThronesModel" "places" "[I") (List.mem_of_getElem? (i := 3) rfl)) (fun _ h9 => h9) rfl dX11_placeBy_42 ?_
      refine lv_iload hx hb dX11_placeBy_45 (lv_at hl 4 rfl) ?_
      refine lv_iload_n hx hb dX11_placeBy_47 rfl (lv_at hl 2 rfl) ?_
      refine lv_iconst (v := zI 3) hx hb dX11_placeBy_48 rfl ?_
      obtain ⟨hz49, hf⟩ := gd_s hf
      refine zv_irem hx hb hz49 dX11_placeBy_49 ?_
      obtain ⟨hi50, hf⟩ := gd_s hf
      refine zv_iast (D := D) hx hb hK hw.1 hw.2.1 hw.2.2 14 0 rfl rfl hi50 (by decide) dX11_placeBy_50 (fun H locs hP hD hS => ?_)
      have hw : Wd D A s (wM q cI cZ (sA σ 13 (va_up (σ.2 13) (Int.toNat x5) (x3 % 3)))) H locs := wdaM_13 hP hD hS
      obtain ⟨σ50, e50, hf⟩ := nm_s hf
      replace hf := bt_s hf
      rw [← e50] at hw
      refine lv_iload_n hx hb dX11_placeBy_51 rfl (lv_at hl 2 rfl) ?_
      refine lv_iconst (v := zI 3) hx hb dX11_placeBy_52 rfl ?_
      obtain ⟨hz53, hf⟩ := gd_s hf
      refine zv_idiv hx hb hz53 dX11_placeBy_53 ?_
      refine lv_istore_n (lv' := [(3, .int (zI (x3 / 3))), (0, .ref (q 0)), (2, .int (zI x2)), (4, .int (zI x4)), (5, .int (zI x5))]) hx hb dX11_placeBy_54 rfl hl (by decide) rfl (fun ls hl => ?_)
      refine lv_aload_n hx hb dX11_placeBy_55 rfl (lv_at hl 1 rfl) ?_
      refine va_get (D := D) (ci := 11) (v := .ref (q 14)) (C := RX11) (T := TX11) (N := 40) hx hb hts (fun _ h => List.mem_cons_of_mem _ (List.mem_append_right _ h)) hown hK hw.1 0 rfl rfl 26 (by decide) (hts (.fieldLink RX11 53 "EggThronesModel" "places" "[I") (List.mem_of_getElem? (i := 3) rfl)) (fun _ h9 => h9) rfl dX11_placeBy_56 ?_
      refine lv_iload hx hb dX11_placeBy_59 (lv_at hl 4 rfl) ?_
      obtain ⟨hi61, hf⟩ := gd_s hf
      refine zv_iald (D := D) hx hb hK hw.1 14 0 rfl rfl hi61 (by decide) dX11_placeBy_61 ?_
      refine lv_aload_n hx hb dX11_placeBy_62 rfl (lv_at hl 1 rfl) ?_
      refine va_get (D := D) (ci := 11) (v := .int (zI (σ50.1 0))) (C := RX11) (T := TX11) (N := 40) hx hb hts (fun _ h => List.mem_cons_of_mem _ (List.mem_append_right _ h)) hown hK hw.1 0 rfl rfl 0 (by decide) (hts (.fieldLink RX11 90 "EggThronesModel" "holds" "I") (List.mem_of_getElem? (i := 4) rfl)) (fun _ h9 => h9) rfl dX11_placeBy_63 ?_
      obtain ⟨hg66, hf⟩ := gd_s hf
      refine zv_icmp_ge (tgt := 88) hx hb hg66 dX11_placeBy_66 (by decide) (fun (c66 : (σ50.1 0) ≤ (σ50.2 13 (Int.toNat x5))) => ?_) (fun (c66 : ¬ ((σ50.1 0) ≤ (σ50.2 13 (Int.toNat x5)))) => ?_)
      · rw [if_pos c66] at hf
        refine zv_ldc hx hb 100000 (by decide +kernel) hown (hts (.constant RX11 251 (100000)) (List.mem_of_getElem? (i := 5) rfl)) dX11_placeBy_88 ?_
        cases hf
        exact hret H locs ls 90 dX11_placeBy_90 hw
      · rw [if_neg c66] at hf
        refine lv_iload_n hx hb dX11_placeBy_69 rfl (lv_at hl 2 rfl) ?_
        refine lv_iload hx hb dX11_placeBy_70 (lv_at hl 4 rfl) ?_
        obtain ⟨r72, h72, hf⟩ := bd_s hf
        replace hf := bt_s hf
        refine gSi (As := [.int (zI x2), .int (zI x5)]) (rest := []) C hw (tX11_has h72) (va_cwS 2 hts gX11_placeBy_X11_has rfl rfl rfl (by decide +kernel) ⟨Nat.le_of_ble_eq_true rfl, Nat.le_of_ble_eq_true rfl⟩) rfl hl.1 rfl (Nat.le_of_ble_eq_true rfl) dX11_placeBy_72 (fun H locs hw => ?_)
        obtain ⟨hg75, hf⟩ := gd_s hf
        refine zv_if_ne (tgt := 91) hx hb hg75 dX11_placeBy_75 (by decide) (fun (c75 : ¬ (r72 = 0)) => ?_) (fun (c75 : r72 = 0) => ?_)
        · rw [if_neg c75] at hf
          exact wX11_placeBy_91 C hret _ ih σ50 x2 (x3 / 3) x4 x5 H locs ls hw (lv_sub hl [1, 2, 0, 3, 4] rfl) hf
        · rw [if_pos c75] at hf
          refine lv_aload_n hx hb dX11_placeBy_78 rfl (lv_at hl 1 rfl) ?_
          refine va_get (D := D) (ci := 11) (v := .ref (q 14)) (C := RX11) (T := TX11) (N := 40) hx hb hts (fun _ h => List.mem_cons_of_mem _ (List.mem_append_right _ h)) hown hK hw.1 0 rfl rfl 26 (by decide) (hts (.fieldLink RX11 53 "EggThronesModel" "places" "[I") (List.mem_of_getElem? (i := 3) rfl)) (fun _ h9 => h9) rfl dX11_placeBy_79 ?_
          refine lv_iload hx hb dX11_placeBy_82 (lv_at hl 4 rfl) ?_
          obtain ⟨hi84, hf⟩ := gd_s hf
          refine zv_iald (D := D) hx hb hK hw.1 14 0 rfl rfl hi84 (by decide) dX11_placeBy_84 ?_
          obtain ⟨hg85, hf⟩ := gd_s hf
          refine zv_if_le (tgt := 91) hx hb hg85 dX11_placeBy_85 (by decide) (fun (c85 : (σ50.2 13 (Int.toNat x5)) ≤ 0) => ?_) (fun (c85 : ¬ ((σ50.2 13 (Int.toNat x5)) ≤ 0)) => ?_)
          · rw [if_pos c85] at hf
            exact wX11_placeBy_91 C hret _ ih σ50 x2 (x3 / 3) x4 x5 H locs ls hw (lv_sub hl [1, 2, 0, 3, 4] rfl) hf
          · rw [if_neg c85] at hf
            refine zv_ldc hx hb 100000 (by decide +kernel) hown (hts (.constant RX11 251 (100000)) (List.mem_of_getElem? (i := 5) rfl)) dX11_placeBy_88 ?_
            cases hf
            exact hret H locs ls 90 dX11_placeBy_90 hw
set_option maxHeartbeats 4000000 in
set_option maxRecDepth 100000 in
theorem wX11_placeBy_8 {p : Program} {l : Launch} {e : Env} {s : State} {m : MethodId} {args : Array Value} {below : List Frame} {meth : Method} {c : Code} {D : va_G} {A : Nat → Prop} {q : Nat → Nat} {cI cZ : ClassId} {Q : State → Prop} {r : Int} {τ : St} (C : Cx p s m args meth c D (TY cI cZ) cX11_placeBy (some .int) 6 wsX11_placeBy RX11) (hret : RtI p l e rmX11_placeBy s m args below meth c D A cX11_placeBy Q (wM q cI cZ τ) (zI r)) :
    ∀ (n : Nat) (σ : St) (x2 : Int) (x3 : Int) (x4 : Int) (x5 : Int) (H : Heap) (locs : List Loc) (ls : Array Slot), Wd D A s (wM q cI cZ σ) H locs → lv_has ls 6 [(0, .ref (q 0)), (2, .int (zI x2)), (3, .int (zI x3)), (4, .int (zI x4)), (5, .int (zI x5))] → pX11_placeBy_8 n σ x2 x3 x4 x5 = some (r, τ) → W p l e rmX11_placeBy s m args below meth c H locs 0 0 Q (F0 m 8 ls []) := by
  obtain ⟨hx, hb, hr, hml, hown, hts, hlk, hK, hN⟩ := id C
  intro n
  induction n with
  | zero =>
    intro σ x2 x3 x4 x5 H locs ls hw hl hf
    exact absurd (show (none : Option (Int × St)) = some (r, τ) from hf) (by simp)
  | succ n ih =>
    intro σ x2 x3 x4 x5 H locs ls hw hl hf
    rw [pX11_placeBy_8] at hf
    refine lv_iload hx hb dX11_placeBy_8 (lv_at hl 4 rfl) ?_
    refine lv_iconst (v := zI 3) hx hb dX11_placeBy_10 rfl ?_
    obtain ⟨hg11, hf⟩ := gd_s hf
    refine zv_icmp_ge (tgt := 28) hx hb ⟨hg11, by decide⟩ dX11_placeBy_11 (by decide) (fun (c11 : 3 ≤ x5) => ?_) (fun (c11 : ¬ (3 ≤ x5)) => ?_)
    · rw [if_pos c11] at hf
      refine lv_aload_n hx hb dX11_placeBy_28 rfl (lv_at hl 0 rfl) ?_
      refine va_get (D := D) (ci := 11) (v := .int (zI (σ.1 2))) (C := RX11) (T := TX11) (N := 40) hx hb hts (fun _ h => List.mem_cons_of_mem _ (List.mem_append_right _ h)) hown hK hw.1 0 rfl rfl 2 (by decide) (hts (.fieldLink RX11 93 "EggThronesModel" "eggs" "I") (List.mem_of_getElem? (i := 2) rfl)) (fun _ h9 => h9) rfl dX11_placeBy_29 ?_
      refine lv_iconst (v := zI 1) hx hb dX11_placeBy_32 rfl ?_
      refine zv_isub hx hb dX11_placeBy_33 ?_
      refine lv_istore (lv' := [(5, .int (zI ((σ.1 2) - 1))), (0, .ref (q 0)), (2, .int (zI x2)), (3, .int (zI x3)), (4, .int (zI x4))]) hx hb dX11_placeBy_34 hl (by decide) rfl (fun ls hl => ?_)
      exact wX11_placeBy_36 C hret FU σ x2 x3 x4 ((σ.1 2) - 1) H locs ls hw (lv_sub hl [1, 2, 3, 4, 0] rfl) hf
    · rw [if_neg c11] at hf
      refine lv_aload_n hx hb dX11_placeBy_14 rfl (lv_at hl 0 rfl) ?_
      refine va_get (D := D) (ci := 11) (v := .ref (q 16)) (C := RX11) (T := TX11) (N := 40) hx hb hts (fun _ h => List.mem_cons_of_mem _ (List.mem_append_right _ h)) hown hK hw.1 0 rfl rfl 28 (by decide) (hts (.fieldLink RX11 59 "EggThronesModel" "loads" "[I") (List.mem_of_getElem? (i := 1) rfl)) (fun _ h9 => h9) rfl dX11_placeBy_15 ?_
      refine lv_iload hx hb dX11_placeBy_18 (lv_at hl 4 rfl) ?_
      refine lv_iconst (v := zI 0) hx hb dX11_placeBy_20 rfl ?_
      obtain ⟨hi21, hf⟩ := gd_s hf
      refine zv_iast (D := D) hx hb hK hw.1 hw.2.1 hw.2.2 16 0 rfl rfl hi21 (by decide) dX11_placeBy_21 (fun H locs hP hD hS => ?_)
      have hw : Wd D A s (wM q cI cZ (sA σ 15 (va_up (σ.2 15) (Int.toNat x5) 0))) H locs := wdaM_15 hP hD hS
      obtain ⟨σ21, e21, hf⟩ := nm_s hf
      replace hf := bt_s hf
      rw [← e21] at hw
      refine lv_iinc (v := zI (x5 + 1)) (lv' := [(5, .int (zI (x5 + 1))), (0, .ref (q 0)), (2, .int (zI x2)), (3, .int (zI x3)), (4, .int (zI x4))]) hx hb dX11_placeBy_22 hl (k := 4) rfl (zI_add _ _) (by decide) rfl (fun ls hl => ?_)
      refine lv_goto (tgt := 8) hx hb dX11_placeBy_25 (by decide) ?_
      exact ih σ21 x2 x3 x4 (x5 + 1) H locs ls hw (lv_sub hl [1, 2, 3, 4, 0] rfl) hf
set_option maxHeartbeats 4000000 in
set_option maxRecDepth 100000 in
theorem wX11_placeBy_0 {p : Program} {l : Launch} {e : Env} {s : State} {m : MethodId} {args : Array Value} {below : List Frame} {meth : Method} {c : Code} {D : va_G} {A : Nat → Prop} {q : Nat → Nat} {cI cZ : ClassId} {Q : State → Prop} {r : Int} {τ : St} (C : Cx p s m args meth c D (TY cI cZ) cX11_placeBy (some .int) 6 wsX11_placeBy RX11) (hret : RtI p l e rmX11_placeBy s m args below meth c D A cX11_placeBy Q (wM q cI cZ τ) (zI r)) :
    ∀ (σ : St) (x1 : Int) (x2 : Int) (H : Heap) (locs : List Loc) (ls : Array Slot), Wd D A s (wM q cI cZ σ) H locs → lv_has ls 6 [(0, .ref (q 0)), (1, .int (zI x1)), (2, .int (zI x2))] → pX11_placeBy_0 σ x1 x2 = some (r, τ) → W p l e rmX11_placeBy s m args below meth c H locs 0 0 Q (F0 m 0 ls []) := by
  obtain ⟨hx, hb, hr, hml, hown, hts, hlk, hK, hN⟩ := id C
  intro σ x1 x2 H locs ls hw hl hf
  rw [pX11_placeBy_0] at hf
  refine lv_iload_n hx hb dX11_placeBy_0 rfl (lv_at hl 1 rfl) ?_
  refine lv_istore_n (lv' := [(3, .int (zI x1)), (0, .ref (q 0)), (1, .int (zI x1)), (2, .int (zI x2))]) hx hb dX11_placeBy_1 rfl hl (by decide) rfl (fun ls hl => ?_)
  refine lv_iconst (v := zI 0) hx hb dX11_placeBy_2 rfl ?_
  refine lv_istore (lv' := [(4, .int (zI 0)), (3, .int (zI x1)), (0, .ref (q 0)), (1, .int (zI x1)), (2, .int (zI x2))]) hx hb dX11_placeBy_3 hl (by decide) rfl (fun ls hl => ?_)
  refine lv_iconst (v := zI 0) hx hb dX11_placeBy_5 rfl ?_
  refine lv_istore (lv' := [(5, .int (zI 0)), (4, .int (zI 0)), (3, .int (zI x1)), (0, .ref (q 0)), (1, .int (zI x1)), (2, .int (zI x2))]) hx hb dX11_placeBy_6 hl (by decide) rfl (fun ls hl => ?_)
  exact wX11_placeBy_8 C hret FU σ x2 x1 0 0 H locs ls hw (lv_sub hl [3, 5, 2, 1, 0] rfl) hf
set_option maxHeartbeats 4000000 in
set_option maxRecDepth 100000 in
theorem tX11_placeBy {l : Launch} {D : va_G} {A : Nat → Prop} {cI cZ : ClassId} {q : Nat → Nat} {σ : St} {x1 : Int} {x2 : Int} {r : Int} {τ : St} (hf : pX11_placeBy σ x1 x2 = some (r, τ)) : Met l yX11_placeBy wsX11_placeBy rmX11_placeBy (va_Pc [.ref (q 0), .int (zI x1), .int (zI x2)] (CX D (TY cI cZ) A (wM q cI cZ σ))) (QI D (TY cI cZ) A (wM q cI cZ τ) (zI r)) 0 0 A := by
  refine opn (cc := cX11_placeBy) (maxL := 6) (ret := (some .int)) (by decide) rfl (Nat.le_of_ble_eq_true rfl) (fun p e s m below meth c C ls hw hl => ?_)
  have hl : lv_has ls 6 [(0, .ref (q 0)), (1, .int (zI x1)), (2, .int (zI x2))] := hl
  rw [pX11_placeBy] at hf
  exact wX11_placeBy_0 C (rtI C) σ x1 x2 _ _ ls hw (lv_sub hl [0, 1, 2] rfl) hf
abbrev rmX11_allBoiled : Room := { frames := 2, cells := 0, slots := 0, locals := 46 }
set_option maxHeartbeats 4000000 in
set_option maxRecDepth 100000 in
theorem wX11_allBoiled_133 {p : Program} {l : Launch} {e : Env} {s : State} {m : MethodId} {args : Array Value} {below : List Frame} {meth : Method} {c : Code} {D : va_G} {A : Nat → Prop} {q : Nat → Nat} {cI cZ : ClassId} {Q : State → Prop} {r : Int} {τ : St} (C : Cx p s m args meth c D (TY cI cZ) cX11_allBoiled (some .int) 8 wsX11_allBoiled RX11) (hret : RtI p l e rmX11_allBoiled s m args below meth c D A cX11_allBoiled Q (wM q cI cZ τ) (zI r)) (k75 : St → Int → Int → Int → Int → Int → Option (Int × St)) (hk75 : ∀ (σ : St) (x1 : Int) (x2 : Int) (x3 : Int) (x4 : Int) (x5 : Int) (H : Heap) (locs : List Loc) (ls : Array Slot), Wd D A s (wM q cI cZ σ) H locs → lv_has ls 8 [(0, .ref (q 0)), (1, .int (zI x1)), (2, .int (zI x2)), (3, .int (zI x3)), (4, .int (zI x4)), (5, .int (zI x5))] → k75 σ x1 x2 x3 x4 x5 = some (r, τ) → W p l e rmX11_allBoiled s m args below meth c H locs 0 0 Q (F0 m 75 ls [])) :
    ∀ (σ : St) (x1 : Int) (x2 : Int) (x3 : Int) (x4 : Int) (x5 : Int) (H : Heap) (locs : List Loc) (ls : Array Slot), Wd D A s (wM q cI cZ σ) H locs → lv_has ls 8 [(0, .ref (q 0)), (1, .int (zI x1)), (2, .int (zI x2)), (3, .int (zI x3)), (4, .int (zI x4)), (5, .int (zI x5))] → pX11_allBoiled_133 k75 σ x1 x2 x3 x4 x5 = some (r, τ) → W p l e rmX11_allBoiled s m args below meth c H locs 0 0 Q (F0 m 133 ls []) := by
  obtain ⟨hx, hb, hr, hml, hown, hts, hlk, hK, hN⟩ := id C
  intro σ x1 x2 x3 x4 x5 H locs ls hw hl hf
  rw [pX11_allBoiled_133] at hf
  refine lv_iinc (v := zI (x5 + 1)) (lv' := [(5, .int (zI (x5 + 1))), (0, .ref (q 0)), (1, .int (zI x1)), (2, .int (zI x2)), (3, .int (zI x3)), (4, .int (zI x4))]) hx hb dX11_allBoiled_133 hl (k := 5) rfl (zI_add _ _) (by decide) rfl (fun ls hl => ?_)
  refine lv_goto (tgt := 75) hx hb dX11_allBoiled_136 (by decide) ?_
  exact hk75 σ x1 x2 x3 x4 (x5 + 1) H locs ls hw (lv_sub hl [1, 2, 3, 4, 5, 0] rfl) hf
set_option maxHeartbeats 4000000 in
set_option maxRecDepth 100000 in
theorem wX11_allBoiled_104 {p : Program} {l : Launch} {e : Env} {s : State} {m : MethodId} {args : Array Value} {below : List Frame} {meth : Method} {c : Code} {D : va_G} {A : Nat → Prop} {q : Nat → Nat} {cI cZ : ClassId} {Q : State → Prop} {r : Int} {τ : St} (C : Cx p s m args meth c D (TY cI cZ) cX11_allBoiled (some .int) 8 wsX11_allBoiled RX11) (hret : RtI p l e rmX11_allBoiled s m args below meth c D A cX11_allBoiled Q (wM q cI cZ τ) (zI r)) (k75 : St → Int → Int → Int → Int → Int → Option (Int × St)) (hk75 : ∀ (σ : St) (x1 : Int) (x2 : Int) (x3 : Int) (x4 : Int) (x5 : Int) (H : Heap) (locs : List Loc) (ls : Array Slot), Wd D A s (wM q cI cZ σ) H locs → lv_has ls 8 [(0, .ref (q 0)), (1, .int (zI x1)), (2, .int (zI x2)), (3, .int (zI x3)), (4, .int (zI x4)), (5, .int (zI x5))] → k75 σ x1 x2 x3 x4 x5 = some (r, τ) → W p l e rmX11_allBoiled s m args below meth c H locs 0 0 Q (F0 m 75 ls [])) :
    ∀ (n : Nat) (σ : St) (x1 : Int) (x2 : Int) (x3 : Int) (x4 : Int) (x5 : Int) (x7 : Int) (H : Heap) (locs : List Loc) (ls : Array Slot), Wd D A s (wM q cI cZ σ) H locs → lv_has ls 8 [(0, .ref (q 0)), (1, .int (zI x1)), (2, .int (zI x2)), (3, .int (zI x3)), (4, .int (zI x4)), (5, .int (zI x5)), (7, .int (zI x7))] → pX11_allBoiled_104 k75 n σ x1 x2 x3 x4 x5 x7 = some (r, τ) → W p l e rmX11_allBoiled s m args below meth c H locs 0 0 Q (F0 m 104 ls []) := by
  obtain ⟨hx, hb, hr, hml, hown, hts, hlk, hK, hN⟩ := id C
  intro n
  induction n with
  | zero =>
    intro σ x1 x2 x3 x4 x5 x7 H locs ls hw hl hf
    exact absurd (show (none : Option (Int × St)) = some (r, τ) from hf) (by simp)
  | succ n ih =>
    intro σ x1 x2 x3 x4 x5 x7 H locs ls hw hl hf
    rw [pX11_allBoiled_104] at hf
    refine lv_iload hx hb dX11_allBoiled_104 (lv_at hl 6 rfl) ?_
    refine lv_aload_n hx hb dX11_allBoiled_106 rfl (lv_at hl 0 rfl) ?_
    refine va_get (D := D) (ci := 11) (v := .int (zI (σ.1 2))) (C := RX11) (T := TX11) (N := 40) hx hb hts (fun _ h => List.mem_cons_of_mem _ (List.mem_append_right _ h)) hown hK hw.1 0 rfl rfl 2 (by decide) (hts (.fieldLink RX11 93 "EggThronesModel" "eggs" "I") (List.mem_of_getElem? (i := 1) rfl)) (fun _ h9 => h9) rfl dX11_allBoiled_107 ?_
    obtain ⟨hg110, hf⟩ := gd_s hf
    refine zv_icmp_ge (tgt := 133) hx hb hg110 dX11_allBoiled_110 (by decide) (fun (c110 : (σ.1 2) ≤ x7) => ?_) (fun (c110 : ¬ ((σ.1 2) ≤ x7)) => ?_)
    · rw [if_pos c110] at hf
      exact wX11_allBoiled_133 C hret _ hk75 σ x1 x2 x3 x4 x5 H locs ls hw (lv_sub hl [0, 1, 2, 3, 4, 5] rfl) hf
    · rw [if_neg c110] at hf
      refine lv_aload_n hx hb dX11_allBoiled_113 rfl (lv_at hl 0 rfl) ?_
      refine va_get (D := D) (ci := 11) (v := .ref (q 15)) (C := RX11) (T := TX11) (N := 40) hx hb hts (fun _ h => List.mem_cons_of_mem _ (List.mem_append_right _ h)) hown hK hw.1 0 rfl rfl 27 (by decide) (hts (.fieldLink RX11 56 "EggThronesModel" "bestPlaces" "[I") (List.mem_of_getElem? (i := 6) rfl)) (fun _ h9 => h9) rfl dX11_allBoiled_114 ?_
      refine lv_iload hx hb dX11_allBoiled_117 (lv_at hl 6 rfl) ?_
      refine lv_aload_n hx hb dX11_allBoiled_119 rfl (lv_at hl 0 rfl) ?_
      refine va_get (D := D) (ci := 11) (v := .ref (q 14)) (C := RX11) (T := TX11) (N := 40) hx hb hts (fun _ h => List.mem_cons_of_mem _ (List.mem_append_right _ h)) hown hK hw.1 0 rfl rfl 26 (by decide) (hts (.fieldLink RX11 53 "EggThronesModel" "places" "[I") (List.mem_of_getElem? (i := 7) rfl)) (fun _ h9 => h9) rfl dX11_allBoiled_120 ?_
      refine lv_iload hx hb dX11_allBoiled_123 (lv_at hl 6 rfl) ?_
      obtain ⟨hi125, hf⟩ := gd_s hf
      refine zv_iald (D := D) hx hb hK hw.1 14 0 rfl rfl hi125 (by decide) dX11_allBoiled_125 ?_
      obtain ⟨hi126, hf⟩ := gd_s hf
      refine zv_iast (D := D) hx hb hK hw.1 hw.2.1 hw.2.2 15 0 rfl rfl hi126 (by decide) dX11_allBoiled_126 (fun H locs hP hD hS => ?_)
      have hw : Wd D A s (wM q cI cZ (sA σ 14 (va_up (σ.2 14) (Int.toNat x7) (σ.2 13 (Int.toNat x7))))) H locs := wdaM_14 hP hD hS
      obtain ⟨σ126, e126, hf⟩ := nm_s hf
      replace hf := bt_s hf
      rw [← e126] at hw
      refine lv_iinc (v := zI (x7 + 1)) (lv' := [(7, .int (zI (x7 + 1))), (0, .ref (q 0)), (1, .int (zI x1)), (2, .int (zI x2)), (3, .int (zI x3)), (4, .int (zI x4)), (5, .int (zI x5))]) hx hb dX11_allBoiled_127 hl (k := 6) rfl (zI_add _ _) (by decide) rfl (fun ls hl => ?_)
      refine lv_goto (tgt := 104) hx hb dX11_allBoiled_130 (by decide) ?_
      exact ih σ126 x1 x2 x3 x4 x5 (x7 + 1) H locs ls hw (lv_sub hl [1, 2, 3, 4, 5, 6, 0] rfl) hf
set_option maxHeartbeats 4000000 in
set_option maxRecDepth 100000 in
theorem wX11_allBoiled_75 {p : Program} {l : Launch} {e : Env} {s : State} {m : MethodId} {args : Array Value} {below : List Frame} {meth : Method} {c : Code} {D : va_G} {A : Nat → Prop} {q : Nat → Nat} {cI cZ : ClassId} {Q : State → Prop} {r : Int} {τ : St} (C : Cx p s m args meth c D (TY cI cZ) cX11_allBoiled (some .int) 8 wsX11_allBoiled RX11) (hret : RtI p l e rmX11_allBoiled s m args below meth c D A cX11_allBoiled Q (wM q cI cZ τ) (zI r)) :
    ∀ (n : Nat) (σ : St) (x1 : Int) (x2 : Int) (x3 : Int) (x4 : Int) (x5 : Int) (H : Heap) (locs : List Loc) (ls : Array Slot), Wd D A s (wM q cI cZ σ) H locs → lv_has ls 8 [(0, .ref (q 0)), (1, .int (zI x1)), (2, .int (zI x2)), (3, .int (zI x3)), (4, .int (zI x4)), (5, .int (zI x5))] → pX11_allBoiled_75 n σ x1 x2 x3 x4 x5 = some (r, τ) → W p l e rmX11_allBoiled s m args below meth c H locs 0 0 Q (F0 m 75 ls []) := by
  obtain ⟨hx, hb, hr, hml, hown, hts, hlk, hK, hN⟩ := id C
  intro n
  induction n with
  | zero =>
    intro σ x1 x2 x3 x4 x5 H locs ls hw hl hf
    exact absurd (show (none : Option (Int × St)) = some (r, τ) from hf) (by simp)
  | succ n ih =>
    intro σ x1 x2 x3 x4 x5 H locs ls hw hl hf
    rw [pX11_allBoiled_75] at hf
    refine lv_iload hx hb dX11_allBoiled_75 (lv_at hl 5 rfl) ?_
    refine lv_iload_n hx hb dX11_allBoiled_77 rfl (lv_at hl 3 rfl) ?_
    obtain ⟨hg78, hf⟩ := gd_s hf
    refine zv_icmp_ge (tgt := 139) hx hb hg78 dX11_allBoiled_78 (by decide) (fun (c78 : x3 ≤ x5) => ?_) (fun (c78 : ¬ (x3 ≤ x5)) => ?_)
    · rw [if_pos c78] at hf
      refine lv_iload_n hx hb dX11_allBoiled_139 rfl (lv_at hl 2 rfl) ?_
      refine lv_iconst (v := zI (-1)) hx hb dX11_allBoiled_140 rfl ?_
      obtain ⟨hg141, hf⟩ := gd_s hf
      refine zv_icmp_ne (tgt := 149) hx hb ⟨hg141, by decide⟩ dX11_allBoiled_141 (by decide) (fun (c141 : ¬ (x2 = (-1))) => ?_) (fun (c141 : x2 = (-1)) => ?_)
      · rw [if_neg c141] at hf
        refine lv_iload_n hx hb dX11_allBoiled_149 rfl (lv_at hl 1 rfl) ?_
        refine lv_iload_n hx hb dX11_allBoiled_150 rfl (lv_at hl 2 rfl) ?_
        obtain ⟨r151, h151, hf⟩ := bd_s hf
        replace hf := bt_s hf
        refine gSi (As := [.int (zI x1), .int (zI x2)]) (rest := []) C hw (tX11_has h151) (va_cwS 2 hts gX11_allBoiled_X11_has rfl rfl rfl (by decide +kernel) ⟨Nat.le_of_ble_eq_true rfl, Nat.le_of_ble_eq_true rfl⟩) rfl hl.1 rfl (Nat.le_of_ble_eq_true rfl) dX11_allBoiled_151 (fun H locs hw => ?_)
        obtain ⟨hg154, hf⟩ := gd_s hf
        refine zv_if_eq (tgt := 166) hx hb hg154 dX11_allBoiled_154 (by decide) (fun (c154 : r151 = 0) => ?_) (fun (c154 : ¬ (r151 = 0)) => ?_)
        · rw [if_pos c154] at hf
          refine lv_iconst (v := zI (-1)) hx hb dX11_allBoiled_166 rfl ?_
          cases hf
          exact hret H locs ls 167 dX11_allBoiled_167 hw
        · rw [if_neg c154] at hf
          refine lv_aload_n hx hb dX11_allBoiled_157 rfl (lv_at hl 0 rfl) ?_
          refine va_get (D := D) (ci := 11) (v := .ref (q 15)) (C := RX11) (T := TX11) (N := 40) hx hb hts (fun _ h => List.mem_cons_of_mem _ (List.mem_append_right _ h)) hown hK hw.1 0 rfl rfl 27 (by decide) (hts (.fieldLink RX11 56 "EggThronesModel" "bestPlaces" "[I") (List.mem_of_getElem? (i := 6) rfl)) (fun _ h9 => h9) rfl dX11_allBoiled_158 ?_
          refine lv_iload_n hx hb dX11_allBoiled_161 rfl (lv_at hl 2 rfl) ?_
          obtain ⟨hi162, hf⟩ := gd_s hf
          refine zv_iald (D := D) hx hb hK hw.1 15 0 rfl rfl hi162 (by decide) dX11_allBoiled_162 ?_
          refine lv_goto (tgt := 167) hx hb dX11_allBoiled_163 (by decide) ?_
          cases hf
          exact hret H locs ls 167 dX11_allBoiled_167 hw
      · rw [if_pos c141] at hf
        refine lv_iload hx hb dX11_allBoiled_144 (lv_at hl 4 rfl) ?_
        refine lv_goto (tgt := 167) hx hb dX11_allBoiled_146 (by decide) ?_
        cases hf
        exact hret H locs ls 167 dX11_allBoiled_167 hw
    · rw [if_neg c78] at hf
      refine lv_aload_n hx hb dX11_allBoiled_81 rfl (lv_at hl 0 rfl) ?_
      refine lv_iload hx hb dX11_allBoiled_82 (lv_at hl 5 rfl) ?_
      refine lv_iload_n hx hb dX11_allBoiled_84 rfl (lv_at hl 1 rfl) ?_
      obtain ⟨⟨r85, σ85⟩, h85, hf⟩ := bd_s hf
      have hf := hf2_s hf
      refine gVi (As := [.int (zI x5), .int (zI x1)]) (rest := []) C hw (tX11_placeBy h85) (cwV 2 hts gX11_allBoiled_X11_placeBy rfl rfl rfl (by decide +kernel) ⟨Nat.le_of_ble_eq_true rfl, Nat.le_of_ble_eq_true rfl⟩) 11 0 rfl rfl rfl hl.1 rfl (Nat.le_of_ble_eq_true rfl) dX11_allBoiled_85 (fun H locs hw => ?_)
      refine lv_istore (lv' := [(6, .int (zI r85)), (0, .ref (q 0)), (1, .int (zI x1)), (2, .int (zI x2)), (3, .int (zI x3)), (4, .int (zI x4)), (5, .int (zI x5))]) hx hb dX11_allBoiled_88 hl (by decide) rfl (fun ls hl => ?_)
      refine lv_iload hx hb dX11_allBoiled_90 (lv_at hl 0 rfl) ?_
      refine lv_iload hx hb dX11_allBoiled_92 (lv_at hl 5 rfl) ?_
      obtain ⟨hg94, hf⟩ := gd_s hf
      refine zv_icmp_ge (tgt := 133) hx hb hg94 dX11_allBoiled_94 (by decide) (fun (c94 : x4 ≤ r85) => ?_) (fun (c94 : ¬ (x4 ≤ r85)) => ?_)
      · rw [if_pos c94] at hf
        exact wX11_allBoiled_133 C hret _ ih σ85 x1 x2 x3 x4 x5 H locs ls hw (lv_sub hl [1, 2, 3, 4, 5, 6] rfl) hf
      · rw [if_neg c94] at hf
        refine lv_iload hx hb dX11_allBoiled_97 (lv_at hl 0 rfl) ?_
        refine lv_istore (lv' := [(4, .int (zI r85)), (6, .int (zI r85)), (0, .ref (q 0)), (1, .int (zI x1)), (2, .int (zI x2)), (3, .int (zI x3)), (5, .int (zI x5))]) hx hb dX11_allBoiled_99 hl (by decide) rfl (fun ls hl => ?_)
        refine lv_iconst (v := zI 0) hx hb dX11_allBoiled_101 rfl ?_
        refine lv_istore (lv' := [(7, .int (zI 0)), (4, .int (zI r85)), (6, .int (zI r85)), (0, .ref (q 0)), (1, .int (zI x1)), (2, .int (zI x2)), (3, .int (zI x3)), (5, .int (zI x5))]) hx hb dX11_allBoiled_102 hl (by decide) rfl (fun ls hl => ?_)
        exact wX11_allBoiled_104 C hret _ ih FU σ85 x1 x2 x3 r85 x5 0 H locs ls hw (lv_sub hl [3, 4, 5, 6, 1, 7, 0] rfl) hf
set_option maxHeartbeats 4000000 in
set_option maxRecDepth 100000 in
theorem wX11_allBoiled_49 {p : Program} {l : Launch} {e : Env} {s : State} {m : MethodId} {args : Array Value} {below : List Frame} {meth : Method} {c : Code} {D : va_G} {A : Nat → Prop} {q : Nat → Nat} {cI cZ : ClassId} {Q : State → Prop} {r : Int} {τ : St} (C : Cx p s m args meth c D (TY cI cZ) cX11_allBoiled (some .int) 8 wsX11_allBoiled RX11) (hret : RtI p l e rmX11_allBoiled s m args below meth c D A cX11_allBoiled Q (wM q cI cZ τ) (zI r)) :
    ∀ (n : Nat) (σ : St) (x1 : Int) (x2 : Int) (x3 : Int) (x4 : Int) (H : Heap) (locs : List Loc) (ls : Array Slot), Wd D A s (wM q cI cZ σ) H locs → lv_has ls 8 [(0, .ref (q 0)), (1, .int (zI x1)), (2, .int (zI x2)), (3, .int (zI x3)), (4, .int (zI x4))] → pX11_allBoiled_49 n σ x1 x2 x3 x4 = some (r, τ) → W p l e rmX11_allBoiled s m args below meth c H locs 0 0 Q (F0 m 49 ls []) := by
  obtain ⟨hx, hb, hr, hml, hown, hts, hlk, hK, hN⟩ := id C
  intro n
  induction n with
  | zero =>
    intro σ x1 x2 x3 x4 H locs ls hw hl hf
    exact absurd (show (none : Option (Int × St)) = some (r, τ) from hf) (by simp)
  | succ n ih =>
    intro σ x1 x2 x3 x4 H locs ls hw hl hf
    rw [pX11_allBoiled_49] at hf
    refine lv_iload hx hb dX11_allBoiled_49 (lv_at hl 4 rfl) ?_
    refine lv_aload_n hx hb dX11_allBoiled_51 rfl (lv_at hl 0 rfl) ?_
    refine va_get (D := D) (ci := 11) (v := .int (zI (σ.1 2))) (C := RX11) (T := TX11) (N := 40) hx hb hts (fun _ h => List.mem_cons_of_mem _ (List.mem_append_right _ h)) hown hK hw.1 0 rfl rfl 2 (by decide) (hts (.fieldLink RX11 93 "EggThronesModel" "eggs" "I") (List.mem_of_getElem? (i := 1) rfl)) (fun _ h9 => h9) rfl dX11_allBoiled_52 ?_
    obtain ⟨hg55, hf⟩ := gd_s hf
    refine zv_icmp_ge (tgt := 68) hx hb hg55 dX11_allBoiled_55 (by decide) (fun (c55 : (σ.1 2) ≤ x4) => ?_) (fun (c55 : ¬ ((σ.1 2) ≤ x4)) => ?_)
    · rw [if_pos c55] at hf
      refine zv_ldc hx hb 100000 (by decide +kernel) hown (hts (.constant RX11 251 (100000)) (List.mem_of_getElem? (i := 5) rfl)) dX11_allBoiled_68 ?_
      refine lv_istore (lv' := [(4, .int (zI 100000)), (0, .ref (q 0)), (1, .int (zI x1)), (2, .int (zI x2)), (3, .int (zI x3))]) hx hb dX11_allBoiled_70 hl (by decide) rfl (fun ls hl => ?_)
      refine lv_iconst (v := zI 0) hx hb dX11_allBoiled_72 rfl ?_
      refine lv_istore (lv' := [(5, .int (zI 0)), (4, .int (zI 100000)), (0, .ref (q 0)), (1, .int (zI x1)), (2, .int (zI x2)), (3, .int (zI x3))]) hx hb dX11_allBoiled_73 hl (by decide) rfl (fun ls hl => ?_)
      exact wX11_allBoiled_75 C hret FU σ x1 x2 x3 100000 0 H locs ls hw (lv_sub hl [2, 3, 4, 5, 1, 0] rfl) hf
    · rw [if_neg c55] at hf
      refine lv_iload_n hx hb dX11_allBoiled_58 rfl (lv_at hl 3 rfl) ?_
      refine lv_iconst (v := zI 3) hx hb dX11_allBoiled_59 rfl ?_
      refine zv_imul hx hb dX11_allBoiled_60 ?_
      refine lv_istore_n (lv' := [(3, .int (zI (x3 * 3))), (0, .ref (q 0)), (1, .int (zI x1)), (2, .int (zI x2)), (4, .int (zI x4))]) hx hb dX11_allBoiled_61 rfl hl (by decide) rfl (fun ls hl => ?_)
      refine lv_iinc (v := zI (x4 + 1)) (lv' := [(4, .int (zI (x4 + 1))), (3, .int (zI (x3 * 3))), (0, .ref (q 0)), (1, .int (zI x1)), (2, .int (zI x2))]) hx hb dX11_allBoiled_62 hl (k := 4) rfl (zI_add _ _) (by decide) rfl (fun ls hl => ?_)
      refine lv_goto (tgt := 49) hx hb dX11_allBoiled_65 (by decide) ?_
      exact ih σ x1 x2 (x3 * 3) (x4 + 1) H locs ls hw (lv_sub hl [2, 3, 4, 1, 0] rfl) hf
set_option maxHeartbeats 4000000 in
set_option maxRecDepth 100000 in
theorem wX11_allBoiled_34 {p : Program} {l : Launch} {e : Env} {s : State} {m : MethodId} {args : Array Value} {below : List Frame} {meth : Method} {c : Code} {D : va_G} {A : Nat → Prop} {q : Nat → Nat} {cI cZ : ClassId} {Q : State → Prop} {r : Int} {τ : St} (C : Cx p s m args meth c D (TY cI cZ) cX11_allBoiled (some .int) 8 wsX11_allBoiled RX11) (hret : RtI p l e rmX11_allBoiled s m args below meth c D A cX11_allBoiled Q (wM q cI cZ τ) (zI r)) :
    ∀ (σ : St) (x1 : Int) (x2 : Int) (H : Heap) (locs : List Loc) (ls : Array Slot), Wd D A s (wM q cI cZ σ) H locs → lv_has ls 8 [(0, .ref (q 0)), (1, .int (zI x1)), (2, .int (zI x2))] → pX11_allBoiled_34 σ x1 x2 = some (r, τ) → W p l e rmX11_allBoiled s m args below meth c H locs 0 0 Q (F0 m 34 ls []) := by
  obtain ⟨hx, hb, hr, hml, hown, hts, hlk, hK, hN⟩ := id C
  intro σ x1 x2 H locs ls hw hl hf
  rw [pX11_allBoiled_34] at hf
  refine lv_aload_n hx hb dX11_allBoiled_34 rfl (lv_at hl 0 rfl) ?_
  refine va_get (D := D) (ci := 11) (v := .int (zI (σ.1 0))) (C := RX11) (T := TX11) (N := 40) hx hb hts (fun _ h => List.mem_cons_of_mem _ (List.mem_append_right _ h)) hown hK hw.1 0 rfl rfl 0 (by decide) (hts (.fieldLink RX11 90 "EggThronesModel" "holds" "I") (List.mem_of_getElem? (i := 3) rfl)) (fun _ h9 => h9) rfl dX11_allBoiled_35 ?_
  obtain ⟨hg38, hf⟩ := gd_s hf
  refine zv_if_ne (tgt := 44) hx hb hg38 dX11_allBoiled_38 (by decide) (fun (c38 : ¬ ((σ.1 0) = 0)) => ?_) (fun (c38 : (σ.1 0) = 0) => ?_)
  · rw [if_neg c38] at hf
    refine lv_iconst (v := zI 1) hx hb dX11_allBoiled_44 rfl ?_
    refine lv_istore_n (lv' := [(3, .int (zI 1)), (0, .ref (q 0)), (1, .int (zI x1)), (2, .int (zI x2))]) hx hb dX11_allBoiled_45 rfl hl (by decide) rfl (fun ls hl => ?_)
    refine lv_iconst (v := zI 0) hx hb dX11_allBoiled_46 rfl ?_
    refine lv_istore (lv' := [(4, .int (zI 0)), (3, .int (zI 1)), (0, .ref (q 0)), (1, .int (zI x1)), (2, .int (zI x2))]) hx hb dX11_allBoiled_47 hl (by decide) rfl (fun ls hl => ?_)
    exact wX11_allBoiled_49 C hret FU σ x1 x2 1 0 H locs ls hw (lv_sub hl [2, 3, 4, 1, 0] rfl) hf
  · rw [if_pos c38] at hf
    refine zv_ldc hx hb (-1000000003) (by decide +kernel) hown (hts (.constant RX11 206 (-1000000003)) (List.mem_of_getElem? (i := 4) rfl)) dX11_allBoiled_41 ?_
    cases hf
    exact hret H locs ls 43 dX11_allBoiled_43 hw
set_option maxHeartbeats 4000000 in
set_option maxRecDepth 100000 in
theorem wX11_allBoiled_0 {p : Program} {l : Launch} {e : Env} {s : State} {m : MethodId} {args : Array Value} {below : List Frame} {meth : Method} {c : Code} {D : va_G} {A : Nat → Prop} {q : Nat → Nat} {cI cZ : ClassId} {Q : State → Prop} {r : Int} {τ : St} (C : Cx p s m args meth c D (TY cI cZ) cX11_allBoiled (some .int) 8 wsX11_allBoiled RX11) (hret : RtI p l e rmX11_allBoiled s m args below meth c D A cX11_allBoiled Q (wM q cI cZ τ) (zI r)) :
    ∀ (σ : St) (x1 : Int) (x2 : Int) (H : Heap) (locs : List Loc) (ls : Array Slot), Wd D A s (wM q cI cZ σ) H locs → lv_has ls 8 [(0, .ref (q 0)), (1, .int (zI x1)), (2, .int (zI x2))] → pX11_allBoiled_0 σ x1 x2 = some (r, τ) → W p l e rmX11_allBoiled s m args below meth c H locs 0 0 Q (F0 m 0 ls []) := by
  obtain ⟨hx, hb, hr, hml, hown, hts, hlk, hK, hN⟩ := id C
  intro σ x1 x2 H locs ls hw hl hf
  rw [pX11_allBoiled_0] at hf
  refine lv_iload_n hx hb dX11_allBoiled_0 rfl (lv_at hl 1 rfl) ?_
  obtain ⟨hz1, hf⟩ := gd_s hf
  refine zv_i2l hx hb hz1 dX11_allBoiled_1 ?_
  refine lv_lconst (v := zL 0) hx hb dX11_allBoiled_2 (by decide +kernel) ?_
  refine lv_iconst (v := zI 1) hx hb dX11_allBoiled_3 rfl ?_
  refine lv_aload_n hx hb dX11_allBoiled_4 rfl (lv_at hl 0 rfl) ?_
  refine va_get (D := D) (ci := 11) (v := .int (zI (σ.1 2))) (C := RX11) (T := TX11) (N := 40) hx hb hts (fun _ h => List.mem_cons_of_mem _ (List.mem_append_right _ h)) hown hK hw.1 0 rfl rfl 2 (by decide) (hts (.fieldLink RX11 93 "EggThronesModel" "eggs" "I") (List.mem_of_getElem? (i := 1) rfl)) (fun _ h9 => h9) rfl dX11_allBoiled_5 ?_
  refine zv_ishl hx hb dX11_allBoiled_8 ?_
  refine lv_iconst (v := zI 1) hx hb dX11_allBoiled_9 rfl ?_
  refine zv_isub hx hb dX11_allBoiled_10 ?_
  obtain ⟨hz11, hf⟩ := gd_s hf
  refine zv_i2l hx hb hz11 dX11_allBoiled_11 ?_
  obtain ⟨r12, h12, hf⟩ := bd_s hf
  replace hf := bt_s hf
  refine gSi (As := [.long (zL x1), .long (zL 0), .long (zL ((zShl 1 (σ.1 2)) - 1))]) (rest := []) C hw (tX11_in h12) (va_cwS 3 hts gX11_allBoiled_X11_in rfl rfl rfl (by decide +kernel) ⟨Nat.le_of_ble_eq_true rfl, Nat.le_of_ble_eq_true rfl⟩) rfl hl.1 rfl (Nat.le_of_ble_eq_true rfl) dX11_allBoiled_12 (fun H locs hw => ?_)
  obtain ⟨hg15, hf⟩ := gd_s hf
  refine zv_if_eq (tgt := 31) hx hb hg15 dX11_allBoiled_15 (by decide) (fun (c15 : r12 = 0) => ?_) (fun (c15 : ¬ (r12 = 0)) => ?_)
  · rw [if_pos c15] at hf
    refine zv_ldc hx hb (-1000000001) (by decide +kernel) hown (hts (.constant RX11 200 (-1000000001)) (List.mem_of_getElem? (i := 2) rfl)) dX11_allBoiled_31 ?_
    cases hf
    exact hret H locs ls 33 dX11_allBoiled_33 hw
  · rw [if_neg c15] at hf
    refine lv_iload_n hx hb dX11_allBoiled_18 rfl (lv_at hl 2 rfl) ?_
    refine lv_iconst (v := zI (-1)) hx hb dX11_allBoiled_19 rfl ?_
    obtain ⟨hg20, hf⟩ := gd_s hf
    refine zv_icmp_eq (tgt := 34) hx hb ⟨hg20, by decide⟩ dX11_allBoiled_20 (by decide) (fun (c20 : x2 = (-1)) => ?_) (fun (c20 : ¬ (x2 = (-1))) => ?_)
    · rw [if_pos c20] at hf
      exact wX11_allBoiled_34 C hret σ x1 x2 H locs ls hw (lv_sub hl [0, 1, 2] rfl) hf
    · rw [if_neg c20] at hf
      refine lv_aload_n hx hb dX11_allBoiled_23 rfl (lv_at hl 0 rfl) ?_
      refine lv_iload_n hx hb dX11_allBoiled_24 rfl (lv_at hl 2 rfl) ?_
      obtain ⟨r25, h25, hf⟩ := bd_s hf
      replace hf := bt_s hf
      refine gVi (As := [.int (zI x2)]) (rest := []) C hw (tX11_isEgg h25) (cwV 1 hts gX11_allBoiled_X11_isEgg rfl rfl rfl (by decide +kernel) ⟨Nat.le_of_ble_eq_true rfl, Nat.le_of_ble_eq_true rfl⟩) 11 0 rfl rfl rfl hl.1 rfl (Nat.le_of_ble_eq_true rfl) dX11_allBoiled_25 (fun H locs hw => ?_)
      obtain ⟨hg28, hf⟩ := gd_s hf
      refine zv_if_ne (tgt := 34) hx hb hg28 dX11_allBoiled_28 (by decide) (fun (c28 : ¬ (r25 = 0)) => ?_) (fun (c28 : r25 = 0) => ?_)
      · rw [if_neg c28] at hf
        exact wX11_allBoiled_34 C hret σ x1 x2 H locs ls hw (lv_sub hl [0, 1, 2] rfl) hf
      · rw [if_pos c28] at hf
        refine zv_ldc hx hb (-1000000001) (by decide +kernel) hown (hts (.constant RX11 200 (-1000000001)) (List.mem_of_getElem? (i := 2) rfl)) dX11_allBoiled_31 ?_
        cases hf
        exact hret H locs ls 33 dX11_allBoiled_33 hw
set_option maxHeartbeats 4000000 in
set_option maxRecDepth 100000 in
theorem tX11_allBoiled {l : Launch} {D : va_G} {A : Nat → Prop} {cI cZ : ClassId} {q : Nat → Nat} {σ : St} {x1 : Int} {x2 : Int} {r : Int} {τ : St} (hf : pX11_allBoiled σ x1 x2 = some (r, τ)) : Met l yX11_allBoiled wsX11_allBoiled rmX11_allBoiled (va_Pc [.ref (q 0), .int (zI x1), .int (zI x2)] (CX D (TY cI cZ) A (wM q cI cZ σ))) (QI D (TY cI cZ) A (wM q cI cZ τ) (zI r)) 0 0 A := by
  refine opn (cc := cX11_allBoiled) (maxL := 8) (ret := (some .int)) (by decide) rfl (Nat.le_of_ble_eq_true rfl) (fun p e s m below meth c C ls hw hl => ?_)
  have hl : lv_has ls 8 [(0, .ref (q 0)), (1, .int (zI x1)), (2, .int (zI x2))] := hl
  rw [pX11_allBoiled] at hf
  exact wX11_allBoiled_0 C (rtI C) σ x1 x2 _ _ ls hw (lv_sub hl [0, 1, 2] rfl) hf
