abbrev rmX8_addEater_c9 : Room := { frames := 0, cells := 0, slots := 0, locals := 0 }
set_option maxHeartbeats 4000000 in
set_option maxRecDepth 100000 in
theorem wX8_addEater_c9_0 {p : Program} {l : Launch} {e : Env} {s : State} {m : MethodId} {args : Array Value} {below : List Frame} {meth : Method} {c : Code} {D : va_G} {A : Nat → Prop} {q : Nat → Nat} {cI cZ : ClassId} {Q : State → Prop} {τ : St} (C : Cx p s m args meth c D (TY cI cZ) cX8_addEater none 3 wsX8_addEater RX8) (hret : RtV p l e rmX8_addEater_c9 s m args below meth c D A cX8_addEater Q (wE q cI cZ τ)) :
    ∀ (σ : St) (x1 : Int) (x2 : Int) (H : Heap) (locs : List Loc) (ls : Array Slot), Wd D A s (wE q cI cZ σ) H locs → lv_has ls 3 [(0, .ref (q 9)), (1, .int (zI x1)), (2, .int (zI x2))] → pX8_addEater_c9_0 σ x1 x2 = some τ → W p l e rmX8_addEater_c9 s m args below meth c H locs 0 0 Q (F0 m 0 ls []) := by
  obtain ⟨hx, hb, hr, hml, hown, hts, hlk, hK, hN⟩ := id C
  intro σ x1 x2 H locs ls hw hl hf
  rw [pX8_addEater_c9_0] at hf
  refine lv_aload_n hx hb dX8_addEater_0 rfl (lv_at hl 0 rfl) ?_
  refine va_get (D := D) (ci := 8) (v := .int (zI (σ.1 15))) (C := RX8) (T := TX8) (N := 10) hx hb hts (fun _ h => List.mem_cons_of_mem _ (List.mem_append_right _ h)) hown hK hw.1 9 rfl rfl 4 (by decide) (hts (.fieldLink RX8 40 "EggThrones$Table" "eaters" "I") (List.mem_of_getElem? (i := 1) rfl)) (fun _ h9 => h9) rfl dX8_addEater_1 ?_
  obtain ⟨hg4, hf⟩ := gd_s hf
  refine zv_if_lt (tgt := 45) hx hb hg4 dX8_addEater_4 (by decide) (fun (c4 : (σ.1 15) < 0) => ?_) (fun (c4 : ¬ ((σ.1 15) < 0)) => ?_)
  · rw [if_pos c4] at hf
    cases hf
    exact hret H locs ls 45 dX8_addEater_45 hw
  · rw [if_neg c4] at hf
    refine lv_aload_n hx hb dX8_addEater_7 rfl (lv_at hl 0 rfl) ?_
    refine va_get (D := D) (ci := 8) (v := .int (zI (σ.1 15))) (C := RX8) (T := TX8) (N := 10) hx hb hts (fun _ h => List.mem_cons_of_mem _ (List.mem_append_right _ h)) hown hK hw.1 9 rfl rfl 4 (by decide) (hts (.fieldLink RX8 40 "EggThrones$Table" "eaters" "I") (List.mem_of_getElem? (i := 1) rfl)) (fun _ h9 => h9) rfl dX8_addEater_8 ?_
    refine lv_iconst (v := zI 5) hx hb dX8_addEater_11 rfl ?_
    obtain ⟨hg12, hf⟩ := gd_s hf
    refine zv_icmp_ge (tgt := 45) hx hb ⟨hg12, by decide⟩ dX8_addEater_12 (by decide) (fun (c12 : 5 ≤ (σ.1 15)) => ?_) (fun (c12 : ¬ (5 ≤ (σ.1 15))) => ?_)
    · rw [if_pos c12] at hf
      cases hf
      exact hret H locs ls 45 dX8_addEater_45 hw
    · rw [if_neg c12] at hf
      refine lv_aload_n hx hb dX8_addEater_15 rfl (lv_at hl 0 rfl) ?_
      refine va_get (D := D) (ci := 8) (v := .ref (q 13)) (C := RX8) (T := TX8) (N := 10) hx hb hts (fun _ h => List.mem_cons_of_mem _ (List.mem_append_right _ h)) hown hK hw.1 9 rfl rfl 8 (by decide) (hts (.fieldLink RX8 21 "EggThrones$Table" "softest" "[I") (List.mem_of_getElem? (i := 2) rfl)) (fun _ h9 => h9) rfl dX8_addEater_16 ?_
      refine lv_aload_n hx hb dX8_addEater_19 rfl (lv_at hl 0 rfl) ?_
      refine va_get (D := D) (ci := 8) (v := .int (zI (σ.1 15))) (C := RX8) (T := TX8) (N := 10) hx hb hts (fun _ h => List.mem_cons_of_mem _ (List.mem_append_right _ h)) hown hK hw.1 9 rfl rfl 4 (by decide) (hts (.fieldLink RX8 40 "EggThrones$Table" "eaters" "I") (List.mem_of_getElem? (i := 1) rfl)) (fun _ h9 => h9) rfl dX8_addEater_20 ?_
      refine lv_iload_n hx hb dX8_addEater_23 rfl (lv_at hl 1 rfl) ?_
      obtain ⟨hi24, hf⟩ := gd_s hf
      refine zv_iast (D := D) hx hb hK hw.1 hw.2.1 hw.2.2 13 0 rfl rfl hi24 (by decide) dX8_addEater_24 (fun H locs hP hD hS => ?_)
      have hw : Wd D A s (wE q cI cZ (sA σ 9 (va_up (σ.2 9) (Int.toNat (σ.1 15)) x1))) H locs := wdaE_9 hP hD hS
      obtain ⟨σ24, e24, hf⟩ := nm_s hf
      replace hf := bt_s hf
      rw [← e24] at hw
      refine lv_aload_n hx hb dX8_addEater_25 rfl (lv_at hl 0 rfl) ?_
      refine va_get (D := D) (ci := 8) (v := .ref (q 14)) (C := RX8) (T := TX8) (N := 10) hx hb hts (fun _ h => List.mem_cons_of_mem _ (List.mem_append_right _ h)) hown hK hw.1 9 rfl rfl 9 (by decide) (hts (.fieldLink RX8 24 "EggThrones$Table" "hardest" "[I") (List.mem_of_getElem? (i := 3) rfl)) (fun _ h9 => h9) rfl dX8_addEater_26 ?_
      refine lv_aload_n hx hb dX8_addEater_29 rfl (lv_at hl 0 rfl) ?_
      refine va_get (D := D) (ci := 8) (v := .int (zI (σ24.1 15))) (C := RX8) (T := TX8) (N := 10) hx hb hts (fun _ h => List.mem_cons_of_mem _ (List.mem_append_right _ h)) hown hK hw.1 9 rfl rfl 4 (by decide) (hts (.fieldLink RX8 40 "EggThrones$Table" "eaters" "I") (List.mem_of_getElem? (i := 1) rfl)) (fun _ h9 => h9) rfl dX8_addEater_30 ?_
      refine lv_iload_n hx hb dX8_addEater_33 rfl (lv_at hl 2 rfl) ?_
      obtain ⟨hi34, hf⟩ := gd_s hf
      refine zv_iast (D := D) hx hb hK hw.1 hw.2.1 hw.2.2 14 0 rfl rfl hi34 (by decide) dX8_addEater_34 (fun H locs hP hD hS => ?_)
      have hw : Wd D A s (wE q cI cZ (sA σ24 10 (va_up (σ24.2 10) (Int.toNat (σ24.1 15)) x2))) H locs := wdaE_10 hP hD hS
      obtain ⟨σ34, e34, hf⟩ := nm_s hf
      replace hf := bt_s hf
      rw [← e34] at hw
      refine lv_aload_n hx hb dX8_addEater_35 rfl (lv_at hl 0 rfl) ?_
      refine lv_dup hx hb dX8_addEater_36 rfl ?_
      refine va_get (D := D) (ci := 8) (v := .int (zI (σ34.1 15))) (C := RX8) (T := TX8) (N := 10) hx hb hts (fun _ h => List.mem_cons_of_mem _ (List.mem_append_right _ h)) hown hK hw.1 9 rfl rfl 4 (by decide) (hts (.fieldLink RX8 40 "EggThrones$Table" "eaters" "I") (List.mem_of_getElem? (i := 1) rfl)) (fun _ h9 => h9) rfl dX8_addEater_37 ?_
      refine lv_iconst (v := zI 1) hx hb dX8_addEater_40 rfl ?_
      refine zv_iadd hx hb dX8_addEater_41 ?_
      refine va_put (D := D) (ci := 8) (v := .int (zI ((σ34.1 15) + 1))) (ty := .int) (C := RX8) (T := TX8) (N := 10) hx hb hts (fun _ h => List.mem_cons_of_mem _ (List.mem_append_right _ h)) tyX8 tyX8_ok nmX8 hown hK hw.1 hw.2.1 hw.2.2 9 rfl rfl 4 (by decide) (hts (.fieldLink RX8 40 "EggThrones$Table" "eaters" "I") (List.mem_of_getElem? (i := 1) rfl)) (fun _ h9 => h9) rfl (by decide +kernel) rfl rfl (Nat.le_of_ble_eq_true rfl) dX8_addEater_42 (fun H locs hP hD hS => ?_)
      have hw : Wd D A s (wE q cI cZ (sI σ34 15 ((σ34.1 15) + 1))) H locs := wdiE_15 hP hD hS
      obtain ⟨σ42, e42, hf⟩ := nm_s hf
      replace hf := bt_s hf
      rw [← e42] at hw
      cases hf
      exact hret H locs ls 45 dX8_addEater_45 hw
set_option maxHeartbeats 4000000 in
set_option maxRecDepth 100000 in
theorem tX8_addEater_c9 {l : Launch} {D : va_G} {A : Nat → Prop} {cI cZ : ClassId} {q : Nat → Nat} {σ : St} {x1 : Int} {x2 : Int} {τ : St} (hf : pX8_addEater_c9 σ x1 x2 = some τ) : Met l yX8_addEater wsX8_addEater rmX8_addEater_c9 (va_Pc [.ref (q 9), .int (zI x1), .int (zI x2)] (CX D (TY cI cZ) A (wE q cI cZ σ))) (QV D (TY cI cZ) A (wE q cI cZ τ)) 0 0 A := by
  refine opn (cc := cX8_addEater) (maxL := 3) (ret := none) (by decide) rfl (Nat.le_of_ble_eq_true rfl) (fun p e s m below meth c C ls hw hl => ?_)
  have hl : lv_has ls 3 [(0, .ref (q 9)), (1, .int (zI x1)), (2, .int (zI x2))] := hl
  rw [pX8_addEater_c9] at hf
  exact wX8_addEater_c9_0 C (rtV C) σ x1 x2 _ _ ls hw (lv_sub hl [0, 1, 2] rfl) hf
abbrev rmX9_readEater_c9 : Room := { frames := 3, cells := 0, slots := 0, locals := 67 }
set_option maxHeartbeats 4000000 in
set_option maxRecDepth 100000 in
theorem wX9_readEater_c9_0 {p : Program} {l : Launch} {e : Env} {s : State} {m : MethodId} {args : Array Value} {below : List Frame} {meth : Method} {c : Code} {D : va_G} {A : Nat → Prop} {q : Nat → Nat} {cI cZ : ClassId} {Q : State → Prop} {τ : St} (C : Cx p s m args meth c D (TY cI cZ) cX9_readEater none 4 wsX9_readEater RX9) (hret : RtV p l e rmX9_readEater_c9 s m args below meth c D A cX9_readEater Q (wE q cI cZ τ)) :
    ∀ (σ : St) (H : Heap) (locs : List Loc) (ls : Array Slot), Wd D A s (wE q cI cZ σ) H locs → lv_has ls 4 [(0, .ref (q 7)), (1, .ref (q 9))] → pX9_readEater_c9_0 σ = some τ → W p l e rmX9_readEater_c9 s m args below meth c H locs 0 0 Q (F0 m 0 ls []) := by
  obtain ⟨hx, hb, hr, hml, hown, hts, hlk, hK, hN⟩ := id C
  intro σ H locs ls hw hl hf
  rw [pX9_readEater_c9_0] at hf
  refine lv_aload_n hx hb dX9_readEater_0 rfl (lv_at hl 1 rfl) ?_
  refine va_getN (D := D) (ci := 8) (v := .int (zI (σ.1 15))) (C := RX8) (T := TX8) (N := 10) hx hb hts (fun _ h => List.mem_cons_of_mem _ (List.mem_append_left _ (List.mem_append_right _ h))) hown hK hw.1 9 rfl rfl 4 (by decide) (va_Nw.use rfl (hN (.fieldLinkNest "EggThrones$Text" 75 "EggThrones$Table" "eaters" "I" "EggThrones") (by decide +kernel))) (fun _ h9 => h9) rfl dX9_readEater_1 ?_
  refine lv_iconst (v := zI 5) hx hb dX9_readEater_4 rfl ?_
  obtain ⟨hg5, hf⟩ := gd_s hf
  refine zv_icmp_lt (tgt := 18) hx hb ⟨hg5, by decide⟩ dX9_readEater_5 (by decide) (fun (c5 : (σ.1 15) < 5) => ?_) (fun (c5 : ¬ ((σ.1 15) < 5)) => ?_)
  · rw [if_pos c5] at hf
    refine lv_aload_n hx hb dX9_readEater_18 rfl (lv_at hl 0 rfl) ?_
    refine lv_dup hx hb dX9_readEater_19 rfl ?_
    refine va_get (D := D) (ci := 9) (v := .int (zI (σ.1 8))) (C := RX9) (T := TX9) (N := 5) hx hb hts (fun _ h => List.mem_cons_of_mem _ (List.mem_append_right _ h)) hown hK hw.1 7 rfl rfl 2 (by decide) (hts (.fieldLink RX9 19 "EggThrones$Text" "at" "I") (List.mem_of_getElem? (i := 1) rfl)) (fun _ h9 => h9) rfl dX9_readEater_20 ?_
    refine lv_iconst (v := zI 1) hx hb dX9_readEater_23 rfl ?_
    refine zv_iadd hx hb dX9_readEater_24 ?_
    refine va_put (D := D) (ci := 9) (v := .int (zI ((σ.1 8) + 1))) (ty := .int) (C := RX9) (T := TX9) (N := 5) hx hb hts (fun _ h => List.mem_cons_of_mem _ (List.mem_append_right _ h)) tyX9 tyX9_ok nmX9 hown hK hw.1 hw.2.1 hw.2.2 7 rfl rfl 2 (by decide) (hts (.fieldLink RX9 19 "EggThrones$Text" "at" "I") (List.mem_of_getElem? (i := 1) rfl)) (fun _ h9 => h9) rfl (by decide +kernel) rfl rfl (Nat.le_of_ble_eq_true rfl) dX9_readEater_25 (fun H locs hP hD hS => ?_)
    have hw : Wd D A s (wE q cI cZ (sI σ 8 ((σ.1 8) + 1))) H locs := wdiE_8 hP hD hS
    obtain ⟨σ25, e25, hf⟩ := nm_s hf
    replace hf := bt_s hf
    rw [← e25] at hw
    refine lv_aload_n hx hb dX9_readEater_28 rfl (lv_at hl 0 rfl) ?_
    refine lv_iconst (v := zI 0) hx hb dX9_readEater_29 rfl ?_
    refine lv_bipush (v := zI 99) hx hb dX9_readEater_30 (by decide +kernel) ?_
    obtain ⟨⟨r32, σ32⟩, h32, hf⟩ := bd_s hf
    have hf := hf2_s hf
    refine gVi (As := [.int (zI 0), .int (zI 99)]) (rest := []) C hw (tX9_readNumber h32) (cwV 2 hts gX9_readEater_X9_readNumber rfl rfl rfl (by decide +kernel) ⟨Nat.le_of_ble_eq_true rfl, Nat.le_of_ble_eq_true rfl⟩) 9 7 rfl rfl rfl hl.1 rfl (Nat.le_of_ble_eq_true rfl) dX9_readEater_32 (fun H locs hw => ?_)
    refine lv_istore_n (lv' := [(2, .int (zI r32)), (0, .ref (q 7)), (1, .ref (q 9))]) hx hb dX9_readEater_35 rfl hl (by decide) rfl (fun ls hl => ?_)
    refine lv_aload_n hx hb dX9_readEater_36 rfl (lv_at hl 1 rfl) ?_
    refine lv_iload_n hx hb dX9_readEater_37 rfl (lv_at hl 0 rfl) ?_
    refine lv_bipush (v := zI 99) hx hb dX9_readEater_38 (by decide +kernel) ?_
    obtain ⟨⟨r40, σ40⟩, h40, hf⟩ := bd_s hf
    have hf := hf2_s hf
    refine gVi (As := [.int (zI r32), .int (zI 99)]) (rest := []) C hw (tX9_readNumber h40) (cwV 2 hts gX9_readEater_X9_readNumber rfl rfl rfl (by decide +kernel) ⟨Nat.le_of_ble_eq_true rfl, Nat.le_of_ble_eq_true rfl⟩) 9 7 rfl rfl rfl hl.1 rfl (Nat.le_of_ble_eq_true rfl) dX9_readEater_40 (fun H locs hw => ?_)
    refine lv_istore_n (lv' := [(3, .int (zI r40)), (2, .int (zI r32)), (0, .ref (q 7)), (1, .ref (q 9))]) hx hb dX9_readEater_43 rfl hl (by decide) rfl (fun ls hl => ?_)
    refine lv_aload_n hx hb dX9_readEater_44 rfl (lv_at hl 2 rfl) ?_
    obtain ⟨σ45, h45, hf⟩ := bd_s hf
    replace hf := bt_s hf
    refine gVv (As := []) (rest := []) C hw (tX9_readSemicolon h45) (cwV 0 hts gX9_readEater_X9_readSemicolon rfl rfl rfl (by decide +kernel) ⟨Nat.le_of_ble_eq_true rfl, Nat.le_of_ble_eq_true rfl⟩) 9 7 rfl rfl rfl hl.1 rfl (Nat.le_of_ble_eq_true rfl) dX9_readEater_45 (fun H locs hw => ?_)
    refine lv_aload_n hx hb dX9_readEater_48 rfl (lv_at hl 2 rfl) ?_
    refine va_get (D := D) (ci := 9) (v := .int (zI (σ45.1 9))) (C := RX9) (T := TX9) (N := 5) hx hb hts (fun _ h => List.mem_cons_of_mem _ (List.mem_append_right _ h)) hown hK hw.1 7 rfl rfl 3 (by decide) (hts (.fieldLink RX9 22 "EggThrones$Text" "faultNumber" "I") (List.mem_of_getElem? (i := 2) rfl)) (fun _ h9 => h9) rfl dX9_readEater_49 ?_
    obtain ⟨hg52, hf⟩ := gd_s hf
    refine zv_if_ne (tgt := 61) hx hb hg52 dX9_readEater_52 (by decide) (fun (c52 : ¬ ((σ45.1 9) = 0)) => ?_) (fun (c52 : (σ45.1 9) = 0) => ?_)
    · rw [if_neg c52] at hf
      cases hf
      exact hret H locs ls 61 dX9_readEater_61 hw
    · rw [if_pos c52] at hf
      refine lv_aload_n hx hb dX9_readEater_55 rfl (lv_at hl 3 rfl) ?_
      refine lv_iload_n hx hb dX9_readEater_56 rfl (lv_at hl 1 rfl) ?_
      refine lv_iload_n hx hb dX9_readEater_57 rfl (lv_at hl 0 rfl) ?_
      obtain ⟨σ58, h58, hf⟩ := bd_s hf
      replace hf := bt_s hf
      refine gVv (As := [.int (zI r32), .int (zI r40)]) (rest := []) C hw (tX8_addEater_c9 h58) (cwV 2 hts gX9_readEater_X8_addEater rfl rfl rfl (by decide +kernel) ⟨Nat.le_of_ble_eq_true rfl, Nat.le_of_ble_eq_true rfl⟩) 8 9 rfl rfl rfl hl.1 rfl (Nat.le_of_ble_eq_true rfl) dX9_readEater_58 (fun H locs hw => ?_)
      cases hf
      exact hret H locs ls 61 dX9_readEater_61 hw
  · rw [if_neg c5] at hf
    refine lv_aload_n hx hb dX9_readEater_8 rfl (lv_at hl 0 rfl) ?_
    refine lv_iconst (v := zI 3) hx hb dX9_readEater_9 rfl ?_
    refine lv_aload_n hx hb dX9_readEater_10 rfl (lv_at hl 0 rfl) ?_
    refine va_get (D := D) (ci := 9) (v := .int (zI (σ.1 8))) (C := RX9) (T := TX9) (N := 5) hx hb hts (fun _ h => List.mem_cons_of_mem _ (List.mem_append_right _ h)) hown hK hw.1 7 rfl rfl 2 (by decide) (hts (.fieldLink RX9 19 "EggThrones$Text" "at" "I") (List.mem_of_getElem? (i := 1) rfl)) (fun _ h9 => h9) rfl dX9_readEater_11 ?_
    obtain ⟨σ14, h14, hf⟩ := bd_s hf
    replace hf := bt_s hf
    refine gVv (As := [.int (zI 3), .int (zI (σ.1 8))]) (rest := []) C hw (tX9_find h14) (cwV 2 hts gX9_readEater_X9_find rfl rfl rfl (by decide +kernel) ⟨Nat.le_of_ble_eq_true rfl, Nat.le_of_ble_eq_true rfl⟩) 9 7 rfl rfl rfl hl.1 rfl (Nat.le_of_ble_eq_true rfl) dX9_readEater_14 (fun H locs hw => ?_)
    cases hf
    exact hret H locs ls 17 dX9_readEater_17 hw
set_option maxHeartbeats 4000000 in
set_option maxRecDepth 100000 in
theorem tX9_readEater_c9 {l : Launch} {D : va_G} {A : Nat → Prop} {cI cZ : ClassId} {q : Nat → Nat} {σ : St} {τ : St} (hf : pX9_readEater_c9 σ = some τ) : Met l yX9_readEater wsX9_readEater rmX9_readEater_c9 (va_Pc [.ref (q 7), .ref (q 9)] (CX D (TY cI cZ) A (wE q cI cZ σ))) (QV D (TY cI cZ) A (wE q cI cZ τ)) 0 0 A := by
  refine opn (cc := cX9_readEater) (maxL := 4) (ret := none) (by decide) rfl (Nat.le_of_ble_eq_true rfl) (fun p e s m below meth c C ls hw hl => ?_)
  have hl : lv_has ls 4 [(0, .ref (q 7)), (1, .ref (q 9))] := hl
  rw [pX9_readEater_c9] at hf
  exact wX9_readEater_c9_0 C (rtV C) σ _ _ ls hw (lv_sub hl [0, 1] rfl) hf
abbrev rmX8_addEgg_c9 : Room := { frames := 0, cells := 0, slots := 0, locals := 0 }
set_option maxHeartbeats 4000000 in
set_option maxRecDepth 100000 in
theorem wX8_addEgg_c9_0 {p : Program} {l : Launch} {e : Env} {s : State} {m : MethodId} {args : Array Value} {below : List Frame} {meth : Method} {c : Code} {D : va_G} {A : Nat → Prop} {q : Nat → Nat} {cI cZ : ClassId} {Q : State → Prop} {τ : St} (C : Cx p s m args meth c D (TY cI cZ) cX8_addEgg none 3 wsX8_addEgg RX8) (hret : RtV p l e rmX8_addEgg_c9 s m args below meth c D A cX8_addEgg Q (wE q cI cZ τ)) :
    ∀ (σ : St) (x1 : Int) (x2 : Int) (H : Heap) (locs : List Loc) (ls : Array Slot), Wd D A s (wE q cI cZ σ) H locs → lv_has ls 3 [(0, .ref (q 9)), (1, .int (zI x1)), (2, .int (zI x2))] → pX8_addEgg_c9_0 σ x1 x2 = some τ → W p l e rmX8_addEgg_c9 s m args below meth c H locs 0 0 Q (F0 m 0 ls []) := by
  obtain ⟨hx, hb, hr, hml, hown, hts, hlk, hK, hN⟩ := id C
  intro σ x1 x2 H locs ls hw hl hf
  rw [pX8_addEgg_c9_0] at hf
  refine lv_aload_n hx hb dX8_addEgg_0 rfl (lv_at hl 0 rfl) ?_
  refine va_get (D := D) (ci := 8) (v := .int (zI (σ.1 14))) (C := RX8) (T := TX8) (N := 10) hx hb hts (fun _ h => List.mem_cons_of_mem _ (List.mem_append_right _ h)) hown hK hw.1 9 rfl rfl 3 (by decide) (hts (.fieldLink RX8 37 "EggThrones$Table" "eggs" "I") (List.mem_of_getElem? (i := 1) rfl)) (fun _ h9 => h9) rfl dX8_addEgg_1 ?_
  obtain ⟨hg4, hf⟩ := gd_s hf
  refine zv_if_lt (tgt := 56) hx hb hg4 dX8_addEgg_4 (by decide) (fun (c4 : (σ.1 14) < 0) => ?_) (fun (c4 : ¬ ((σ.1 14) < 0)) => ?_)
  · rw [if_pos c4] at hf
    cases hf
    exact hret H locs ls 56 dX8_addEgg_56 hw
  · rw [if_neg c4] at hf
    refine lv_aload_n hx hb dX8_addEgg_7 rfl (lv_at hl 0 rfl) ?_
    refine va_get (D := D) (ci := 8) (v := .int (zI (σ.1 14))) (C := RX8) (T := TX8) (N := 10) hx hb hts (fun _ h => List.mem_cons_of_mem _ (List.mem_append_right _ h)) hown hK hw.1 9 rfl rfl 3 (by decide) (hts (.fieldLink RX8 37 "EggThrones$Table" "eggs" "I") (List.mem_of_getElem? (i := 1) rfl)) (fun _ h9 => h9) rfl dX8_addEgg_8 ?_
    refine lv_bipush (v := zI 7) hx hb dX8_addEgg_11 (by decide +kernel) ?_
    obtain ⟨hg13, hf⟩ := gd_s hf
    refine zv_icmp_ge (tgt := 56) hx hb ⟨hg13, by decide⟩ dX8_addEgg_13 (by decide) (fun (c13 : 7 ≤ (σ.1 14)) => ?_) (fun (c13 : ¬ (7 ≤ (σ.1 14))) => ?_)
    · rw [if_pos c13] at hf
      cases hf
      exact hret H locs ls 56 dX8_addEgg_56 hw
    · rw [if_neg c13] at hf
      refine lv_aload_n hx hb dX8_addEgg_16 rfl (lv_at hl 0 rfl) ?_
      refine va_get (D := D) (ci := 8) (v := .ref (q 10)) (C := RX8) (T := TX8) (N := 10) hx hb hts (fun _ h => List.mem_cons_of_mem _ (List.mem_append_right _ h)) hown hK hw.1 9 rfl rfl 5 (by decide) (hts (.fieldLink RX8 9 "EggThrones$Table" "ages" "[I") (List.mem_of_getElem? (i := 2) rfl)) (fun _ h9 => h9) rfl dX8_addEgg_17 ?_
      refine lv_aload_n hx hb dX8_addEgg_20 rfl (lv_at hl 0 rfl) ?_
      refine va_get (D := D) (ci := 8) (v := .int (zI (σ.1 14))) (C := RX8) (T := TX8) (N := 10) hx hb hts (fun _ h => List.mem_cons_of_mem _ (List.mem_append_right _ h)) hown hK hw.1 9 rfl rfl 3 (by decide) (hts (.fieldLink RX8 37 "EggThrones$Table" "eggs" "I") (List.mem_of_getElem? (i := 1) rfl)) (fun _ h9 => h9) rfl dX8_addEgg_21 ?_
      refine lv_iload_n hx hb dX8_addEgg_24 rfl (lv_at hl 1 rfl) ?_
      obtain ⟨hi25, hf⟩ := gd_s hf
      refine zv_iast (D := D) hx hb hK hw.1 hw.2.1 hw.2.2 10 0 rfl rfl hi25 (by decide) dX8_addEgg_25 (fun H locs hP hD hS => ?_)
      have hw : Wd D A s (wE q cI cZ (sA σ 6 (va_up (σ.2 6) (Int.toNat (σ.1 14)) x1))) H locs := wdaE_6 hP hD hS
      obtain ⟨σ25, e25, hf⟩ := nm_s hf
      replace hf := bt_s hf
      rw [← e25] at hw
      refine lv_aload_n hx hb dX8_addEgg_26 rfl (lv_at hl 0 rfl) ?_
      refine va_get (D := D) (ci := 8) (v := .ref (q 11)) (C := RX8) (T := TX8) (N := 10) hx hb hts (fun _ h => List.mem_cons_of_mem _ (List.mem_append_right _ h)) hown hK hw.1 9 rfl rfl 6 (by decide) (hts (.fieldLink RX8 15 "EggThrones$Table" "sizes" "[I") (List.mem_of_getElem? (i := 3) rfl)) (fun _ h9 => h9) rfl dX8_addEgg_27 ?_
      refine lv_aload_n hx hb dX8_addEgg_30 rfl (lv_at hl 0 rfl) ?_
      refine va_get (D := D) (ci := 8) (v := .int (zI (σ25.1 14))) (C := RX8) (T := TX8) (N := 10) hx hb hts (fun _ h => List.mem_cons_of_mem _ (List.mem_append_right _ h)) hown hK hw.1 9 rfl rfl 3 (by decide) (hts (.fieldLink RX8 37 "EggThrones$Table" "eggs" "I") (List.mem_of_getElem? (i := 1) rfl)) (fun _ h9 => h9) rfl dX8_addEgg_31 ?_
      refine lv_iload_n hx hb dX8_addEgg_34 rfl (lv_at hl 2 rfl) ?_
      obtain ⟨hi35, hf⟩ := gd_s hf
      refine zv_iast (D := D) hx hb hK hw.1 hw.2.1 hw.2.2 11 0 rfl rfl hi35 (by decide) dX8_addEgg_35 (fun H locs hP hD hS => ?_)
      have hw : Wd D A s (wE q cI cZ (sA σ25 7 (va_up (σ25.2 7) (Int.toNat (σ25.1 14)) x2))) H locs := wdaE_7 hP hD hS
      obtain ⟨σ35, e35, hf⟩ := nm_s hf
      replace hf := bt_s hf
      rw [← e35] at hw
      refine lv_aload_n hx hb dX8_addEgg_36 rfl (lv_at hl 0 rfl) ?_
      refine va_get (D := D) (ci := 8) (v := .ref (q 12)) (C := RX8) (T := TX8) (N := 10) hx hb hts (fun _ h => List.mem_cons_of_mem _ (List.mem_append_right _ h)) hown hK hw.1 9 rfl rfl 7 (by decide) (hts (.fieldLink RX8 18 "EggThrones$Table" "wishes" "[I") (List.mem_of_getElem? (i := 4) rfl)) (fun _ h9 => h9) rfl dX8_addEgg_37 ?_
      refine lv_aload_n hx hb dX8_addEgg_40 rfl (lv_at hl 0 rfl) ?_
      refine va_get (D := D) (ci := 8) (v := .int (zI (σ35.1 14))) (C := RX8) (T := TX8) (N := 10) hx hb hts (fun _ h => List.mem_cons_of_mem _ (List.mem_append_right _ h)) hown hK hw.1 9 rfl rfl 3 (by decide) (hts (.fieldLink RX8 37 "EggThrones$Table" "eggs" "I") (List.mem_of_getElem? (i := 1) rfl)) (fun _ h9 => h9) rfl dX8_addEgg_41 ?_
      refine lv_iconst (v := zI 1) hx hb dX8_addEgg_44 rfl ?_
      obtain ⟨hi45, hf⟩ := gd_s hf
      refine zv_iast (D := D) hx hb hK hw.1 hw.2.1 hw.2.2 12 0 rfl rfl hi45 (by decide) dX8_addEgg_45 (fun H locs hP hD hS => ?_)
      have hw : Wd D A s (wE q cI cZ (sA σ35 8 (va_up (σ35.2 8) (Int.toNat (σ35.1 14)) 1))) H locs := wdaE_8 hP hD hS
      obtain ⟨σ45, e45, hf⟩ := nm_s hf
      replace hf := bt_s hf
      rw [← e45] at hw
      refine lv_aload_n hx hb dX8_addEgg_46 rfl (lv_at hl 0 rfl) ?_
      refine lv_dup hx hb dX8_addEgg_47 rfl ?_
      refine va_get (D := D) (ci := 8) (v := .int (zI (σ45.1 14))) (C := RX8) (T := TX8) (N := 10) hx hb hts (fun _ h => List.mem_cons_of_mem _ (List.mem_append_right _ h)) hown hK hw.1 9 rfl rfl 3 (by decide) (hts (.fieldLink RX8 37 "EggThrones$Table" "eggs" "I") (List.mem_of_getElem? (i := 1) rfl)) (fun _ h9 => h9) rfl dX8_addEgg_48 ?_
      refine lv_iconst (v := zI 1) hx hb dX8_addEgg_51 rfl ?_
      refine zv_iadd hx hb dX8_addEgg_52 ?_
      refine va_put (D := D) (ci := 8) (v := .int (zI ((σ45.1 14) + 1))) (ty := .int) (C := RX8) (T := TX8) (N := 10) hx hb hts (fun _ h => List.mem_cons_of_mem _ (List.mem_append_right _ h)) tyX8 tyX8_ok nmX8 hown hK hw.1 hw.2.1 hw.2.2 9 rfl rfl 3 (by decide) (hts (.fieldLink RX8 37 "EggThrones$Table" "eggs" "I") (List.mem_of_getElem? (i := 1) rfl)) (fun _ h9 => h9) rfl (by decide +kernel) rfl rfl (Nat.le_of_ble_eq_true rfl) dX8_addEgg_53 (fun H locs hP hD hS => ?_)
      have hw : Wd D A s (wE q cI cZ (sI σ45 14 ((σ45.1 14) + 1))) H locs := wdiE_14 hP hD hS
      obtain ⟨σ53, e53, hf⟩ := nm_s hf
      replace hf := bt_s hf
      rw [← e53] at hw
      cases hf
      exact hret H locs ls 56 dX8_addEgg_56 hw
set_option maxHeartbeats 4000000 in
set_option maxRecDepth 100000 in
theorem tX8_addEgg_c9 {l : Launch} {D : va_G} {A : Nat → Prop} {cI cZ : ClassId} {q : Nat → Nat} {σ : St} {x1 : Int} {x2 : Int} {τ : St} (hf : pX8_addEgg_c9 σ x1 x2 = some τ) : Met l yX8_addEgg wsX8_addEgg rmX8_addEgg_c9 (va_Pc [.ref (q 9), .int (zI x1), .int (zI x2)] (CX D (TY cI cZ) A (wE q cI cZ σ))) (QV D (TY cI cZ) A (wE q cI cZ τ)) 0 0 A := by
  refine opn (cc := cX8_addEgg) (maxL := 3) (ret := none) (by decide) rfl (Nat.le_of_ble_eq_true rfl) (fun p e s m below meth c C ls hw hl => ?_)
  have hl : lv_has ls 3 [(0, .ref (q 9)), (1, .int (zI x1)), (2, .int (zI x2))] := hl
  rw [pX8_addEgg_c9] at hf
  exact wX8_addEgg_c9_0 C (rtV C) σ x1 x2 _ _ ls hw (lv_sub hl [0, 1, 2] rfl) hf
abbrev rmX9_readEgg_c9 : Room := { frames := 3, cells := 0, slots := 0, locals := 67 }
set_option maxHeartbeats 4000000 in
set_option maxRecDepth 100000 in
theorem wX9_readEgg_c9_0 {p : Program} {l : Launch} {e : Env} {s : State} {m : MethodId} {args : Array Value} {below : List Frame} {meth : Method} {c : Code} {D : va_G} {A : Nat → Prop} {q : Nat → Nat} {cI cZ : ClassId} {Q : State → Prop} {τ : St} (C : Cx p s m args meth c D (TY cI cZ) cX9_readEgg none 4 wsX9_readEgg RX9) (hret : RtV p l e rmX9_readEgg_c9 s m args below meth c D A cX9_readEgg Q (wE q cI cZ τ)) :
    ∀ (σ : St) (H : Heap) (locs : List Loc) (ls : Array Slot), Wd D A s (wE q cI cZ σ) H locs → lv_has ls 4 [(0, .ref (q 7)), (1, .ref (q 9))] → pX9_readEgg_c9_0 σ = some τ → W p l e rmX9_readEgg_c9 s m args below meth c H locs 0 0 Q (F0 m 0 ls []) := by
  obtain ⟨hx, hb, hr, hml, hown, hts, hlk, hK, hN⟩ := id C
  intro σ H locs ls hw hl hf
  rw [pX9_readEgg_c9_0] at hf
  refine lv_aload_n hx hb dX9_readEgg_0 rfl (lv_at hl 1 rfl) ?_
  refine va_getN (D := D) (ci := 8) (v := .int (zI (σ.1 14))) (C := RX8) (T := TX8) (N := 10) hx hb hts (fun _ h => List.mem_cons_of_mem _ (List.mem_append_left _ (List.mem_append_right _ h))) hown hK hw.1 9 rfl rfl 3 (by decide) (va_Nw.use rfl (hN (.fieldLinkNest "EggThrones$Text" 69 "EggThrones$Table" "eggs" "I" "EggThrones") (by decide +kernel))) (fun _ h9 => h9) rfl dX9_readEgg_1 ?_
  refine lv_bipush (v := zI 7) hx hb dX9_readEgg_4 (by decide +kernel) ?_
  obtain ⟨hg6, hf⟩ := gd_s hf
  refine zv_icmp_lt (tgt := 19) hx hb ⟨hg6, by decide⟩ dX9_readEgg_6 (by decide) (fun (c6 : (σ.1 14) < 7) => ?_) (fun (c6 : ¬ ((σ.1 14) < 7)) => ?_)
  · rw [if_pos c6] at hf
    refine lv_aload_n hx hb dX9_readEgg_19 rfl (lv_at hl 0 rfl) ?_
    refine lv_dup hx hb dX9_readEgg_20 rfl ?_
    refine va_get (D := D) (ci := 9) (v := .int (zI (σ.1 8))) (C := RX9) (T := TX9) (N := 5) hx hb hts (fun _ h => List.mem_cons_of_mem _ (List.mem_append_right _ h)) hown hK hw.1 7 rfl rfl 2 (by decide) (hts (.fieldLink RX9 19 "EggThrones$Text" "at" "I") (List.mem_of_getElem? (i := 1) rfl)) (fun _ h9 => h9) rfl dX9_readEgg_21 ?_
    refine lv_iconst (v := zI 1) hx hb dX9_readEgg_24 rfl ?_
    refine zv_iadd hx hb dX9_readEgg_25 ?_
    refine va_put (D := D) (ci := 9) (v := .int (zI ((σ.1 8) + 1))) (ty := .int) (C := RX9) (T := TX9) (N := 5) hx hb hts (fun _ h => List.mem_cons_of_mem _ (List.mem_append_right _ h)) tyX9 tyX9_ok nmX9 hown hK hw.1 hw.2.1 hw.2.2 7 rfl rfl 2 (by decide) (hts (.fieldLink RX9 19 "EggThrones$Text" "at" "I") (List.mem_of_getElem? (i := 1) rfl)) (fun _ h9 => h9) rfl (by decide +kernel) rfl rfl (Nat.le_of_ble_eq_true rfl) dX9_readEgg_26 (fun H locs hP hD hS => ?_)
    have hw : Wd D A s (wE q cI cZ (sI σ 8 ((σ.1 8) + 1))) H locs := wdiE_8 hP hD hS
    obtain ⟨σ26, e26, hf⟩ := nm_s hf
    replace hf := bt_s hf
    rw [← e26] at hw
    refine lv_aload_n hx hb dX9_readEgg_29 rfl (lv_at hl 0 rfl) ?_
    refine lv_iconst (v := zI 0) hx hb dX9_readEgg_30 rfl ?_
    refine lv_bipush (v := zI 30) hx hb dX9_readEgg_31 (by decide +kernel) ?_
    obtain ⟨⟨r33, σ33⟩, h33, hf⟩ := bd_s hf
    have hf := hf2_s hf
    refine gVi (As := [.int (zI 0), .int (zI 30)]) (rest := []) C hw (tX9_readNumber h33) (cwV 2 hts gX9_readEgg_X9_readNumber rfl rfl rfl (by decide +kernel) ⟨Nat.le_of_ble_eq_true rfl, Nat.le_of_ble_eq_true rfl⟩) 9 7 rfl rfl rfl hl.1 rfl (Nat.le_of_ble_eq_true rfl) dX9_readEgg_33 (fun H locs hw => ?_)
    refine lv_istore_n (lv' := [(2, .int (zI r33)), (0, .ref (q 7)), (1, .ref (q 9))]) hx hb dX9_readEgg_36 rfl hl (by decide) rfl (fun ls hl => ?_)
    refine lv_aload_n hx hb dX9_readEgg_37 rfl (lv_at hl 1 rfl) ?_
    refine lv_iconst (v := zI 1) hx hb dX9_readEgg_38 rfl ?_
    refine lv_iconst (v := zI 5) hx hb dX9_readEgg_39 rfl ?_
    obtain ⟨⟨r40, σ40⟩, h40, hf⟩ := bd_s hf
    have hf := hf2_s hf
    refine gVi (As := [.int (zI 1), .int (zI 5)]) (rest := []) C hw (tX9_readNumber h40) (cwV 2 hts gX9_readEgg_X9_readNumber rfl rfl rfl (by decide +kernel) ⟨Nat.le_of_ble_eq_true rfl, Nat.le_of_ble_eq_true rfl⟩) 9 7 rfl rfl rfl hl.1 rfl (Nat.le_of_ble_eq_true rfl) dX9_readEgg_40 (fun H locs hw => ?_)
    refine lv_istore_n (lv' := [(3, .int (zI r40)), (2, .int (zI r33)), (0, .ref (q 7)), (1, .ref (q 9))]) hx hb dX9_readEgg_43 rfl hl (by decide) rfl (fun ls hl => ?_)
    refine lv_aload_n hx hb dX9_readEgg_44 rfl (lv_at hl 2 rfl) ?_
    obtain ⟨σ45, h45, hf⟩ := bd_s hf
    replace hf := bt_s hf
    refine gVv (As := []) (rest := []) C hw (tX9_readSemicolon h45) (cwV 0 hts gX9_readEgg_X9_readSemicolon rfl rfl rfl (by decide +kernel) ⟨Nat.le_of_ble_eq_true rfl, Nat.le_of_ble_eq_true rfl⟩) 9 7 rfl rfl rfl hl.1 rfl (Nat.le_of_ble_eq_true rfl) dX9_readEgg_45 (fun H locs hw => ?_)
    refine lv_aload_n hx hb dX9_readEgg_48 rfl (lv_at hl 2 rfl) ?_
    refine va_get (D := D) (ci := 9) (v := .int (zI (σ45.1 9))) (C := RX9) (T := TX9) (N := 5) hx hb hts (fun _ h => List.mem_cons_of_mem _ (List.mem_append_right _ h)) hown hK hw.1 7 rfl rfl 3 (by decide) (hts (.fieldLink RX9 22 "EggThrones$Text" "faultNumber" "I") (List.mem_of_getElem? (i := 2) rfl)) (fun _ h9 => h9) rfl dX9_readEgg_49 ?_
    obtain ⟨hg52, hf⟩ := gd_s hf
    refine zv_if_ne (tgt := 61) hx hb hg52 dX9_readEgg_52 (by decide) (fun (c52 : ¬ ((σ45.1 9) = 0)) => ?_) (fun (c52 : (σ45.1 9) = 0) => ?_)
    · rw [if_neg c52] at hf
      cases hf
      exact hret H locs ls 61 dX9_readEgg_61 hw
    · rw [if_pos c52] at hf
      refine lv_aload_n hx hb dX9_readEgg_55 rfl (lv_at hl 3 rfl) ?_
      refine lv_iload_n hx hb dX9_readEgg_56 rfl (lv_at hl 1 rfl) ?_
      refine lv_iload_n hx hb dX9_readEgg_57 rfl (lv_at hl 0 rfl) ?_
      obtain ⟨σ58, h58, hf⟩ := bd_s hf
      replace hf := bt_s hf
      refine gVv (As := [.int (zI r33), .int (zI r40)]) (rest := []) C hw (tX8_addEgg_c9 h58) (cwV 2 hts gX9_readEgg_X8_addEgg rfl rfl rfl (by decide +kernel) ⟨Nat.le_of_ble_eq_true rfl, Nat.le_of_ble_eq_true rfl⟩) 8 9 rfl rfl rfl hl.1 rfl (Nat.le_of_ble_eq_true rfl) dX9_readEgg_58 (fun H locs hw => ?_)
      cases hf
      exact hret H locs ls 61 dX9_readEgg_61 hw
  · rw [if_neg c6] at hf
    refine lv_aload_n hx hb dX9_readEgg_9 rfl (lv_at hl 0 rfl) ?_
    refine lv_iconst (v := zI 3) hx hb dX9_readEgg_10 rfl ?_
    refine lv_aload_n hx hb dX9_readEgg_11 rfl (lv_at hl 0 rfl) ?_
    refine va_get (D := D) (ci := 9) (v := .int (zI (σ.1 8))) (C := RX9) (T := TX9) (N := 5) hx hb hts (fun _ h => List.mem_cons_of_mem _ (List.mem_append_right _ h)) hown hK hw.1 7 rfl rfl 2 (by decide) (hts (.fieldLink RX9 19 "EggThrones$Text" "at" "I") (List.mem_of_getElem? (i := 1) rfl)) (fun _ h9 => h9) rfl dX9_readEgg_12 ?_
    obtain ⟨σ15, h15, hf⟩ := bd_s hf
    replace hf := bt_s hf
    refine gVv (As := [.int (zI 3), .int (zI (σ.1 8))]) (rest := []) C hw (tX9_find h15) (cwV 2 hts gX9_readEgg_X9_find rfl rfl rfl (by decide +kernel) ⟨Nat.le_of_ble_eq_true rfl, Nat.le_of_ble_eq_true rfl⟩) 9 7 rfl rfl rfl hl.1 rfl (Nat.le_of_ble_eq_true rfl) dX9_readEgg_15 (fun H locs hw => ?_)
    cases hf
    exact hret H locs ls 18 dX9_readEgg_18 hw
set_option maxHeartbeats 4000000 in
set_option maxRecDepth 100000 in
theorem tX9_readEgg_c9 {l : Launch} {D : va_G} {A : Nat → Prop} {cI cZ : ClassId} {q : Nat → Nat} {σ : St} {τ : St} (hf : pX9_readEgg_c9 σ = some τ) : Met l yX9_readEgg wsX9_readEgg rmX9_readEgg_c9 (va_Pc [.ref (q 7), .ref (q 9)] (CX D (TY cI cZ) A (wE q cI cZ σ))) (QV D (TY cI cZ) A (wE q cI cZ τ)) 0 0 A := by
  refine opn (cc := cX9_readEgg) (maxL := 4) (ret := none) (by decide) rfl (Nat.le_of_ble_eq_true rfl) (fun p e s m below meth c C ls hw hl => ?_)
  have hl : lv_has ls 4 [(0, .ref (q 7)), (1, .ref (q 9))] := hl
  rw [pX9_readEgg_c9] at hf
  exact wX9_readEgg_c9_0 C (rtV C) σ _ _ ls hw (lv_sub hl [0, 1] rfl) hf
abbrev rmX8_isLaid_c9 : Room := { frames := 0, cells := 0, slots := 0, locals := 0 }
set_option maxHeartbeats 4000000 in
set_option maxRecDepth 100000 in
theorem wX8_isLaid_c9_0 {p : Program} {l : Launch} {e : Env} {s : State} {m : MethodId} {args : Array Value} {below : List Frame} {meth : Method} {c : Code} {D : va_G} {A : Nat → Prop} {q : Nat → Nat} {cI cZ : ClassId} {Q : State → Prop} {σ : St} {r : Int} (C : Cx p s m args meth c D (TY cI cZ) cX8_isLaid (some .boolean) 1 wsX8_isLaid RX8) (hret : RtZ p l e rmX8_isLaid_c9 s m args below meth c D A cX8_isLaid Q (wE q cI cZ σ) (zI r)) :
    ∀ (H : Heap) (locs : List Loc) (ls : Array Slot), Wd D A s (wE q cI cZ σ) H locs → lv_has ls 1 [(0, .ref (q 9))] → pX8_isLaid_c9_0 σ = some r → W p l e rmX8_isLaid_c9 s m args below meth c H locs 0 0 Q (F0 m 0 ls []) := by
  obtain ⟨hx, hb, hr, hml, hown, hts, hlk, hK, hN⟩ := id C
  intro H locs ls hw hl hf
  rw [pX8_isLaid_c9_0] at hf
  refine lv_aload_n hx hb dX8_isLaid_0 rfl (lv_at hl 0 rfl) ?_
  refine va_get (D := D) (ci := 8) (v := .int (zI (σ.1 11))) (C := RX8) (T := TX8) (N := 10) hx hb hts (fun _ h => List.mem_cons_of_mem _ (List.mem_append_right _ h)) hown hK hw.1 9 rfl rfl 0 (by decide) (hts (.fieldLink RX8 27 "EggThrones$Table" "places" "I") (List.mem_of_getElem? (i := 1) rfl)) (fun _ h9 => h9) rfl dX8_isLaid_1 ?_
  obtain ⟨hg4, hf⟩ := gd_s hf
  refine zv_if_le (tgt := 11) hx hb hg4 dX8_isLaid_4 (by decide) (fun (c4 : (σ.1 11) ≤ 0) => ?_) (fun (c4 : ¬ ((σ.1 11) ≤ 0)) => ?_)
  · rw [if_pos c4] at hf
    refine lv_iconst (v := zI 0) hx hb dX8_isLaid_11 rfl ?_
    cases hf
    exact hret H locs ls 12 dX8_isLaid_12 (by decide +kernel) hw
  · rw [if_neg c4] at hf
    refine lv_iconst (v := zI 1) hx hb dX8_isLaid_7 rfl ?_
    refine lv_goto (tgt := 12) hx hb dX8_isLaid_8 (by decide) ?_
    cases hf
    exact hret H locs ls 12 dX8_isLaid_12 (by decide +kernel) hw
set_option maxHeartbeats 4000000 in
set_option maxRecDepth 100000 in
theorem tX8_isLaid_c9 {l : Launch} {D : va_G} {A : Nat → Prop} {cI cZ : ClassId} {q : Nat → Nat} {σ : St} {r : Int} (hf : pX8_isLaid_c9 σ = some r) : Met l yX8_isLaid wsX8_isLaid rmX8_isLaid_c9 (va_Pc [.ref (q 9)] (CX D (TY cI cZ) A (wE q cI cZ σ))) (QI D (TY cI cZ) A (wE q cI cZ σ) (zI r)) 0 0 A := by
  refine opn (cc := cX8_isLaid) (maxL := 1) (ret := (some .boolean)) (by decide) rfl (Nat.le_of_ble_eq_true rfl) (fun p e s m below meth c C ls hw hl => ?_)
  have hl : lv_has ls 1 [(0, .ref (q 9))] := hl
  rw [pX8_isLaid_c9] at hf
  exact wX8_isLaid_c9_0 C (rtZ C) _ _ ls hw (lv_sub hl [0] rfl) hf
abbrev rmX8_layPan_c9 : Room := { frames := 0, cells := 0, slots := 0, locals := 0 }
set_option maxHeartbeats 4000000 in
set_option maxRecDepth 100000 in
theorem wX8_layPan_c9_0 {p : Program} {l : Launch} {e : Env} {s : State} {m : MethodId} {args : Array Value} {below : List Frame} {meth : Method} {c : Code} {D : va_G} {A : Nat → Prop} {q : Nat → Nat} {cI cZ : ClassId} {Q : State → Prop} {τ : St} (C : Cx p s m args meth c D (TY cI cZ) cX8_layPan none 4 wsX8_layPan RX8) (hret : RtV p l e rmX8_layPan_c9 s m args below meth c D A cX8_layPan Q (wE q cI cZ τ)) :
    ∀ (σ : St) (x1 : Int) (x2 : Int) (x3 : Int) (H : Heap) (locs : List Loc) (ls : Array Slot), Wd D A s (wE q cI cZ σ) H locs → lv_has ls 4 [(0, .ref (q 9)), (1, .int (zI x1)), (2, .int (zI x2)), (3, .int (zI x3))] → pX8_layPan_c9_0 σ x1 x2 x3 = some τ → W p l e rmX8_layPan_c9 s m args below meth c H locs 0 0 Q (F0 m 0 ls []) := by
  obtain ⟨hx, hb, hr, hml, hown, hts, hlk, hK, hN⟩ := id C
  intro σ x1 x2 x3 H locs ls hw hl hf
  rw [pX8_layPan_c9_0] at hf
  refine lv_aload_n hx hb dX8_layPan_0 rfl (lv_at hl 0 rfl) ?_
  refine lv_iload_n hx hb dX8_layPan_1 rfl (lv_at hl 1 rfl) ?_
  refine va_put (D := D) (ci := 8) (v := .int (zI x1)) (ty := .int) (C := RX8) (T := TX8) (N := 10) hx hb hts (fun _ h => List.mem_cons_of_mem _ (List.mem_append_right _ h)) tyX8 tyX8_ok nmX8 hown hK hw.1 hw.2.1 hw.2.2 9 rfl rfl 0 (by decide) (hts (.fieldLink RX8 27 "EggThrones$Table" "places" "I") (List.mem_of_getElem? (i := 1) rfl)) (fun _ h9 => h9) rfl (by decide +kernel) rfl rfl (Nat.le_of_ble_eq_true rfl) dX8_layPan_2 (fun H locs hP hD hS => ?_)
  have hw : Wd D A s (wE q cI cZ (sI σ 11 x1)) H locs := wdiE_11 hP hD hS
  obtain ⟨σ2, e2, hf⟩ := nm_s hf
  replace hf := bt_s hf
  rw [← e2] at hw
  refine lv_aload_n hx hb dX8_layPan_5 rfl (lv_at hl 0 rfl) ?_
  refine lv_iload_n hx hb dX8_layPan_6 rfl (lv_at hl 2 rfl) ?_
  refine va_put (D := D) (ci := 8) (v := .int (zI x2)) (ty := .int) (C := RX8) (T := TX8) (N := 10) hx hb hts (fun _ h => List.mem_cons_of_mem _ (List.mem_append_right _ h)) tyX8 tyX8_ok nmX8 hown hK hw.1 hw.2.1 hw.2.2 9 rfl rfl 1 (by decide) (hts (.fieldLink RX8 31 "EggThrones$Table" "toast" "I") (List.mem_of_getElem? (i := 2) rfl)) (fun _ h9 => h9) rfl (by decide +kernel) rfl rfl (Nat.le_of_ble_eq_true rfl) dX8_layPan_7 (fun H locs hP hD hS => ?_)
  have hw : Wd D A s (wE q cI cZ (sI σ2 12 x2)) H locs := wdiE_12 hP hD hS
  obtain ⟨σ7, e7, hf⟩ := nm_s hf
  replace hf := bt_s hf
  rw [← e7] at hw
  refine lv_aload_n hx hb dX8_layPan_10 rfl (lv_at hl 0 rfl) ?_
  refine lv_iload_n hx hb dX8_layPan_11 rfl (lv_at hl 3 rfl) ?_
  refine va_put (D := D) (ci := 8) (v := .int (zI x3)) (ty := .int) (C := RX8) (T := TX8) (N := 10) hx hb hts (fun _ h => List.mem_cons_of_mem _ (List.mem_append_right _ h)) tyX8 tyX8_ok nmX8 hown hK hw.1 hw.2.1 hw.2.2 9 rfl rfl 2 (by decide) (hts (.fieldLink RX8 34 "EggThrones$Table" "limit" "I") (List.mem_of_getElem? (i := 3) rfl)) (fun _ h9 => h9) rfl (by decide +kernel) rfl rfl (Nat.le_of_ble_eq_true rfl) dX8_layPan_12 (fun H locs hP hD hS => ?_)
  have hw : Wd D A s (wE q cI cZ (sI σ7 13 x3)) H locs := wdiE_13 hP hD hS
  obtain ⟨σ12, e12, hf⟩ := nm_s hf
  replace hf := bt_s hf
  rw [← e12] at hw
  cases hf
  exact hret H locs ls 15 dX8_layPan_15 hw
set_option maxHeartbeats 4000000 in
set_option maxRecDepth 100000 in
theorem tX8_layPan_c9 {l : Launch} {D : va_G} {A : Nat → Prop} {cI cZ : ClassId} {q : Nat → Nat} {σ : St} {x1 : Int} {x2 : Int} {x3 : Int} {τ : St} (hf : pX8_layPan_c9 σ x1 x2 x3 = some τ) : Met l yX8_layPan wsX8_layPan rmX8_layPan_c9 (va_Pc [.ref (q 9), .int (zI x1), .int (zI x2), .int (zI x3)] (CX D (TY cI cZ) A (wE q cI cZ σ))) (QV D (TY cI cZ) A (wE q cI cZ τ)) 0 0 A := by
  refine opn (cc := cX8_layPan) (maxL := 4) (ret := none) (by decide) rfl (Nat.le_of_ble_eq_true rfl) (fun p e s m below meth c C ls hw hl => ?_)
  have hl : lv_has ls 4 [(0, .ref (q 9)), (1, .int (zI x1)), (2, .int (zI x2)), (3, .int (zI x3))] := hl
  rw [pX8_layPan_c9] at hf
  exact wX8_layPan_c9_0 C (rtV C) σ x1 x2 x3 _ _ ls hw (lv_sub hl [0, 1, 2, 3] rfl) hf
abbrev rmX9_readPan_c9 : Room := { frames := 3, cells := 0, slots := 0, locals := 67 }
set_option maxHeartbeats 4000000 in
set_option maxRecDepth 100000 in
theorem wX9_readPan_c9_0 {p : Program} {l : Launch} {e : Env} {s : State} {m : MethodId} {args : Array Value} {below : List Frame} {meth : Method} {c : Code} {D : va_G} {A : Nat → Prop} {q : Nat → Nat} {cI cZ : ClassId} {Q : State → Prop} {τ : St} (C : Cx p s m args meth c D (TY cI cZ) cX9_readPan none 5 wsX9_readPan RX9) (hret : RtV p l e rmX9_readPan_c9 s m args below meth c D A cX9_readPan Q (wE q cI cZ τ)) :
    ∀ (σ : St) (H : Heap) (locs : List Loc) (ls : Array Slot), Wd D A s (wE q cI cZ σ) H locs → lv_has ls 5 [(0, .ref (q 7)), (1, .ref (q 9))] → pX9_readPan_c9_0 σ = some τ → W p l e rmX9_readPan_c9 s m args below meth c H locs 0 0 Q (F0 m 0 ls []) := by
  obtain ⟨hx, hb, hr, hml, hown, hts, hlk, hK, hN⟩ := id C
  intro σ H locs ls hw hl hf
  rw [pX9_readPan_c9_0] at hf
  refine lv_aload_n hx hb dX9_readPan_0 rfl (lv_at hl 1 rfl) ?_
  obtain ⟨r1, h1, hf⟩ := bd_s hf
  replace hf := bt_s hf
  refine gVi (As := []) (rest := []) C hw (tX8_isLaid_c9 h1) (cwV 0 hts gX9_readPan_X8_isLaid rfl rfl rfl (by decide +kernel) ⟨Nat.le_of_ble_eq_true rfl, Nat.le_of_ble_eq_true rfl⟩) 8 9 rfl rfl rfl hl.1 rfl (Nat.le_of_ble_eq_true rfl) dX9_readPan_1 (fun H locs hw => ?_)
  obtain ⟨hg4, hf⟩ := gd_s hf
  refine zv_if_eq (tgt := 17) hx hb hg4 dX9_readPan_4 (by decide) (fun (c4 : r1 = 0) => ?_) (fun (c4 : ¬ (r1 = 0)) => ?_)
  · rw [if_pos c4] at hf
    refine lv_aload_n hx hb dX9_readPan_17 rfl (lv_at hl 0 rfl) ?_
    refine lv_dup hx hb dX9_readPan_18 rfl ?_
    refine va_get (D := D) (ci := 9) (v := .int (zI (σ.1 8))) (C := RX9) (T := TX9) (N := 5) hx hb hts (fun _ h => List.mem_cons_of_mem _ (List.mem_append_left _ (List.mem_append_right _ h))) hown hK hw.1 7 rfl rfl 2 (by decide) (hts (.fieldLink RX9 19 "EggThrones$Text" "at" "I") (List.mem_of_getElem? (i := 1) rfl)) (fun _ h9 => h9) rfl dX9_readPan_19 ?_
    refine lv_iconst (v := zI 1) hx hb dX9_readPan_22 rfl ?_
    refine zv_iadd hx hb dX9_readPan_23 ?_
    refine va_put (D := D) (ci := 9) (v := .int (zI ((σ.1 8) + 1))) (ty := .int) (C := RX9) (T := TX9) (N := 5) hx hb hts (fun _ h => List.mem_cons_of_mem _ (List.mem_append_left _ (List.mem_append_right _ h))) tyX9 tyX9_ok nmX9 hown hK hw.1 hw.2.1 hw.2.2 7 rfl rfl 2 (by decide) (hts (.fieldLink RX9 19 "EggThrones$Text" "at" "I") (List.mem_of_getElem? (i := 1) rfl)) (fun _ h9 => h9) rfl (by decide +kernel) rfl rfl (Nat.le_of_ble_eq_true rfl) dX9_readPan_24 (fun H locs hP hD hS => ?_)
    have hw : Wd D A s (wE q cI cZ (sI σ 8 ((σ.1 8) + 1))) H locs := wdiE_8 hP hD hS
    obtain ⟨σ24, e24, hf⟩ := nm_s hf
    replace hf := bt_s hf
    rw [← e24] at hw
    refine lv_aload_n hx hb dX9_readPan_27 rfl (lv_at hl 0 rfl) ?_
    refine lv_iconst (v := zI 1) hx hb dX9_readPan_28 rfl ?_
    refine lv_iconst (v := zI 3) hx hb dX9_readPan_29 rfl ?_
    obtain ⟨⟨r30, σ30⟩, h30, hf⟩ := bd_s hf
    have hf := hf2_s hf
    refine gVi (As := [.int (zI 1), .int (zI 3)]) (rest := []) C hw (tX9_readNumber h30) (cwV 2 hts gX9_readPan_X9_readNumber rfl rfl rfl (by decide +kernel) ⟨Nat.le_of_ble_eq_true rfl, Nat.le_of_ble_eq_true rfl⟩) 9 7 rfl rfl rfl hl.1 rfl (Nat.le_of_ble_eq_true rfl) dX9_readPan_30 (fun H locs hw => ?_)
    refine lv_istore_n (lv' := [(2, .int (zI r30)), (0, .ref (q 7)), (1, .ref (q 9))]) hx hb dX9_readPan_33 rfl hl (by decide) rfl (fun ls hl => ?_)
    refine lv_aload_n hx hb dX9_readPan_34 rfl (lv_at hl 1 rfl) ?_
    refine lv_iconst (v := zI 0) hx hb dX9_readPan_35 rfl ?_
    refine lv_bipush (v := zI 99) hx hb dX9_readPan_36 (by decide +kernel) ?_
    obtain ⟨⟨r38, σ38⟩, h38, hf⟩ := bd_s hf
    have hf := hf2_s hf
    refine gVi (As := [.int (zI 0), .int (zI 99)]) (rest := []) C hw (tX9_readNumber h38) (cwV 2 hts gX9_readPan_X9_readNumber rfl rfl rfl (by decide +kernel) ⟨Nat.le_of_ble_eq_true rfl, Nat.le_of_ble_eq_true rfl⟩) 9 7 rfl rfl rfl hl.1 rfl (Nat.le_of_ble_eq_true rfl) dX9_readPan_38 (fun H locs hw => ?_)
    refine lv_istore_n (lv' := [(3, .int (zI r38)), (2, .int (zI r30)), (0, .ref (q 7)), (1, .ref (q 9))]) hx hb dX9_readPan_41 rfl hl (by decide) rfl (fun ls hl => ?_)
    refine lv_aload_n hx hb dX9_readPan_42 rfl (lv_at hl 2 rfl) ?_
    refine lv_iconst (v := zI 1) hx hb dX9_readPan_43 rfl ?_
    refine lv_bipush (v := zI 30) hx hb dX9_readPan_44 (by decide +kernel) ?_
    obtain ⟨⟨r46, σ46⟩, h46, hf⟩ := bd_s hf
    have hf := hf2_s hf
    refine gVi (As := [.int (zI 1), .int (zI 30)]) (rest := []) C hw (tX9_readNumber h46) (cwV 2 hts gX9_readPan_X9_readNumber rfl rfl rfl (by decide +kernel) ⟨Nat.le_of_ble_eq_true rfl, Nat.le_of_ble_eq_true rfl⟩) 9 7 rfl rfl rfl hl.1 rfl (Nat.le_of_ble_eq_true rfl) dX9_readPan_46 (fun H locs hw => ?_)
    refine lv_istore (lv' := [(4, .int (zI r46)), (3, .int (zI r38)), (2, .int (zI r30)), (0, .ref (q 7)), (1, .ref (q 9))]) hx hb dX9_readPan_49 hl (by decide) rfl (fun ls hl => ?_)
    refine lv_aload_n hx hb dX9_readPan_51 rfl (lv_at hl 3 rfl) ?_
    obtain ⟨σ52, h52, hf⟩ := bd_s hf
    replace hf := bt_s hf
    refine gVv (As := []) (rest := []) C hw (tX9_readSemicolon h52) (cwV 0 hts gX9_readPan_X9_readSemicolon rfl rfl rfl (by decide +kernel) ⟨Nat.le_of_ble_eq_true rfl, Nat.le_of_ble_eq_true rfl⟩) 9 7 rfl rfl rfl hl.1 rfl (Nat.le_of_ble_eq_true rfl) dX9_readPan_52 (fun H locs hw => ?_)
    refine lv_aload_n hx hb dX9_readPan_55 rfl (lv_at hl 3 rfl) ?_
    refine va_get (D := D) (ci := 9) (v := .int (zI (σ52.1 9))) (C := RX9) (T := TX9) (N := 5) hx hb hts (fun _ h => List.mem_cons_of_mem _ (List.mem_append_left _ (List.mem_append_right _ h))) hown hK hw.1 7 rfl rfl 3 (by decide) (hts (.fieldLink RX9 22 "EggThrones$Text" "faultNumber" "I") (List.mem_of_getElem? (i := 2) rfl)) (fun _ h9 => h9) rfl dX9_readPan_56 ?_
    obtain ⟨hg59, hf⟩ := gd_s hf
    refine zv_if_ne (tgt := 70) hx hb hg59 dX9_readPan_59 (by decide) (fun (c59 : ¬ ((σ52.1 9) = 0)) => ?_) (fun (c59 : (σ52.1 9) = 0) => ?_)
    · rw [if_neg c59] at hf
      cases hf
      exact hret H locs ls 70 dX9_readPan_70 hw
    · rw [if_pos c59] at hf
      refine lv_aload_n hx hb dX9_readPan_62 rfl (lv_at hl 4 rfl) ?_
      refine lv_iload_n hx hb dX9_readPan_63 rfl (lv_at hl 2 rfl) ?_
      refine lv_iload_n hx hb dX9_readPan_64 rfl (lv_at hl 1 rfl) ?_
      refine lv_iload hx hb dX9_readPan_65 (lv_at hl 0 rfl) ?_
      obtain ⟨σ67, h67, hf⟩ := bd_s hf
      replace hf := bt_s hf
      refine gVv (As := [.int (zI r30), .int (zI r38), .int (zI r46)]) (rest := []) C hw (tX8_layPan_c9 h67) (cwV 3 hts gX9_readPan_X8_layPan rfl rfl rfl (by decide +kernel) ⟨Nat.le_of_ble_eq_true rfl, Nat.le_of_ble_eq_true rfl⟩) 8 9 rfl rfl rfl hl.1 rfl (Nat.le_of_ble_eq_true rfl) dX9_readPan_67 (fun H locs hw => ?_)
      cases hf
      exact hret H locs ls 70 dX9_readPan_70 hw
  · rw [if_neg c4] at hf
    refine lv_aload_n hx hb dX9_readPan_7 rfl (lv_at hl 0 rfl) ?_
    refine lv_iconst (v := zI 3) hx hb dX9_readPan_8 rfl ?_
    refine lv_aload_n hx hb dX9_readPan_9 rfl (lv_at hl 0 rfl) ?_
    refine va_get (D := D) (ci := 9) (v := .int (zI (σ.1 8))) (C := RX9) (T := TX9) (N := 5) hx hb hts (fun _ h => List.mem_cons_of_mem _ (List.mem_append_left _ (List.mem_append_right _ h))) hown hK hw.1 7 rfl rfl 2 (by decide) (hts (.fieldLink RX9 19 "EggThrones$Text" "at" "I") (List.mem_of_getElem? (i := 1) rfl)) (fun _ h9 => h9) rfl dX9_readPan_10 ?_
    obtain ⟨σ13, h13, hf⟩ := bd_s hf
    replace hf := bt_s hf
    refine gVv (As := [.int (zI 3), .int (zI (σ.1 8))]) (rest := []) C hw (tX9_find h13) (cwV 2 hts gX9_readPan_X9_find rfl rfl rfl (by decide +kernel) ⟨Nat.le_of_ble_eq_true rfl, Nat.le_of_ble_eq_true rfl⟩) 9 7 rfl rfl rfl hl.1 rfl (Nat.le_of_ble_eq_true rfl) dX9_readPan_13 (fun H locs hw => ?_)
    cases hf
    exact hret H locs ls 16 dX9_readPan_16 hw
set_option maxHeartbeats 4000000 in
set_option maxRecDepth 100000 in
theorem tX9_readPan_c9 {l : Launch} {D : va_G} {A : Nat → Prop} {cI cZ : ClassId} {q : Nat → Nat} {σ : St} {τ : St} (hf : pX9_readPan_c9 σ = some τ) : Met l yX9_readPan wsX9_readPan rmX9_readPan_c9 (va_Pc [.ref (q 7), .ref (q 9)] (CX D (TY cI cZ) A (wE q cI cZ σ))) (QV D (TY cI cZ) A (wE q cI cZ τ)) 0 0 A := by
  refine opn (cc := cX9_readPan) (maxL := 5) (ret := none) (by decide) rfl (Nat.le_of_ble_eq_true rfl) (fun p e s m below meth c C ls hw hl => ?_)
  have hl : lv_has ls 5 [(0, .ref (q 7)), (1, .ref (q 9))] := hl
  rw [pX9_readPan_c9] at hf
  exact wX9_readPan_c9_0 C (rtV C) σ _ _ ls hw (lv_sub hl [0, 1] rfl) hf
abbrev rmX9_readClause_c9 : Room := { frames := 4, cells := 0, slots := 0, locals := 91 }
set_option maxHeartbeats 4000000 in
set_option maxRecDepth 100000 in
theorem wX9_readClause_c9_30 {p : Program} {l : Launch} {e : Env} {s : State} {m : MethodId} {args : Array Value} {below : List Frame} {meth : Method} {c : Code} {D : va_G} {A : Nat → Prop} {q : Nat → Nat} {cI cZ : ClassId} {Q : State → Prop} {τ : St} (C : Cx p s m args meth c D (TY cI cZ) cX9_readClause none 3 wsX9_readClause RX9) (hret : RtV p l e rmX9_readClause_c9 s m args below meth c D A cX9_readClause Q (wE q cI cZ τ)) :
    ∀ (σ : St) (x2 : Int) (H : Heap) (locs : List Loc) (ls : Array Slot), Wd D A s (wE q cI cZ σ) H locs → lv_has ls 3 [(0, .ref (q 7)), (1, .ref (q 9)), (2, .int (zI x2))] → pX9_readClause_c9_30 σ x2 = some τ → W p l e rmX9_readClause_c9 s m args below meth c H locs 0 0 Q (F0 m 30 ls []) := by
  obtain ⟨hx, hb, hr, hml, hown, hts, hlk, hK, hN⟩ := id C
  intro σ x2 H locs ls hw hl hf
  rw [pX9_readClause_c9_30] at hf
  refine lv_iload_n hx hb dX9_readClause_30 rfl (lv_at hl 2 rfl) ?_
  refine lv_bipush (v := zI 112) hx hb dX9_readClause_31 (by decide +kernel) ?_
  obtain ⟨hg33, hf⟩ := gd_s hf
  refine zv_icmp_ne (tgt := 44) hx hb ⟨hg33, by decide⟩ dX9_readClause_33 (by decide) (fun (c33 : ¬ (x2 = 112)) => ?_) (fun (c33 : x2 = 112) => ?_)
  · rw [if_neg c33] at hf
    refine lv_iload_n hx hb dX9_readClause_44 rfl (lv_at hl 2 rfl) ?_
    refine lv_bipush (v := zI 101) hx hb dX9_readClause_45 (by decide +kernel) ?_
    obtain ⟨hg47, hf⟩ := gd_s hf
    refine zv_icmp_ne (tgt := 58) hx hb ⟨hg47, by decide⟩ dX9_readClause_47 (by decide) (fun (c47 : ¬ (x2 = 101)) => ?_) (fun (c47 : x2 = 101) => ?_)
    · rw [if_neg c47] at hf
      refine lv_iload_n hx hb dX9_readClause_58 rfl (lv_at hl 2 rfl) ?_
      refine lv_bipush (v := zI 109) hx hb dX9_readClause_59 (by decide +kernel) ?_
      obtain ⟨hg61, hf⟩ := gd_s hf
      refine zv_icmp_ne (tgt := 72) hx hb ⟨hg61, by decide⟩ dX9_readClause_61 (by decide) (fun (c61 : ¬ (x2 = 109)) => ?_) (fun (c61 : x2 = 109) => ?_)
      · rw [if_neg c61] at hf
        refine lv_aload_n hx hb dX9_readClause_72 rfl (lv_at hl 0 rfl) ?_
        refine lv_iconst (v := zI 1) hx hb dX9_readClause_73 rfl ?_
        refine lv_aload_n hx hb dX9_readClause_74 rfl (lv_at hl 0 rfl) ?_
        refine va_get (D := D) (ci := 9) (v := .int (zI (σ.1 8))) (C := RX9) (T := TX9) (N := 5) hx hb hts (fun _ h => List.mem_cons_of_mem _ (List.mem_append_left _ (List.mem_append_right _ h))) hown hK hw.1 7 rfl rfl 2 (by decide) (hts (.fieldLink RX9 19 "EggThrones$Text" "at" "I") (List.mem_of_getElem? (i := 1) rfl)) (fun _ h9 => h9) rfl dX9_readClause_75 ?_
        obtain ⟨σ78, h78, hf⟩ := bd_s hf
        replace hf := bt_s hf
        refine gVv (As := [.int (zI 1), .int (zI (σ.1 8))]) (rest := []) C hw (tX9_find h78) (cwV 2 hts gX9_readClause_X9_find rfl rfl rfl (by decide +kernel) ⟨Nat.le_of_ble_eq_true rfl, Nat.le_of_ble_eq_true rfl⟩) 9 7 rfl rfl rfl hl.1 rfl (Nat.le_of_ble_eq_true rfl) dX9_readClause_78 (fun H locs hw => ?_)
        cases hf
        exact hret H locs ls 81 dX9_readClause_81 hw
      · rw [if_pos c61] at hf
        refine lv_aload_n hx hb dX9_readClause_64 rfl (lv_at hl 0 rfl) ?_
        refine lv_aload_n hx hb dX9_readClause_65 rfl (lv_at hl 1 rfl) ?_
        obtain ⟨σ66, h66, hf⟩ := bd_s hf
        replace hf := bt_s hf
        refine gVv (As := [.ref (q 9)]) (rest := []) C hw (tX9_readEater_c9 h66) (cwV 1 hts gX9_readClause_X9_readEater rfl rfl rfl (by decide +kernel) ⟨Nat.le_of_ble_eq_true rfl, Nat.le_of_ble_eq_true rfl⟩) 9 7 rfl rfl rfl hl.1 rfl (Nat.le_of_ble_eq_true rfl) dX9_readClause_66 (fun H locs hw => ?_)
        refine lv_goto (tgt := 81) hx hb dX9_readClause_69 (by decide) ?_
        cases hf
        exact hret H locs ls 81 dX9_readClause_81 hw
    · rw [if_pos c47] at hf
      refine lv_aload_n hx hb dX9_readClause_50 rfl (lv_at hl 0 rfl) ?_
      refine lv_aload_n hx hb dX9_readClause_51 rfl (lv_at hl 1 rfl) ?_
      obtain ⟨σ52, h52, hf⟩ := bd_s hf
      replace hf := bt_s hf
      refine gVv (As := [.ref (q 9)]) (rest := []) C hw (tX9_readEgg_c9 h52) (cwV 1 hts gX9_readClause_X9_readEgg rfl rfl rfl (by decide +kernel) ⟨Nat.le_of_ble_eq_true rfl, Nat.le_of_ble_eq_true rfl⟩) 9 7 rfl rfl rfl hl.1 rfl (Nat.le_of_ble_eq_true rfl) dX9_readClause_52 (fun H locs hw => ?_)
      refine lv_goto (tgt := 81) hx hb dX9_readClause_55 (by decide) ?_
      cases hf
      exact hret H locs ls 81 dX9_readClause_81 hw
  · rw [if_pos c33] at hf
    refine lv_aload_n hx hb dX9_readClause_36 rfl (lv_at hl 0 rfl) ?_
    refine lv_aload_n hx hb dX9_readClause_37 rfl (lv_at hl 1 rfl) ?_
    obtain ⟨σ38, h38, hf⟩ := bd_s hf
    replace hf := bt_s hf
    refine gVv (As := [.ref (q 9)]) (rest := []) C hw (tX9_readPan_c9 h38) (cwV 1 hts gX9_readClause_X9_readPan rfl rfl rfl (by decide +kernel) ⟨Nat.le_of_ble_eq_true rfl, Nat.le_of_ble_eq_true rfl⟩) 9 7 rfl rfl rfl hl.1 rfl (Nat.le_of_ble_eq_true rfl) dX9_readClause_38 (fun H locs hw => ?_)
    refine lv_goto (tgt := 81) hx hb dX9_readClause_41 (by decide) ?_
    cases hf
    exact hret H locs ls 81 dX9_readClause_81 hw
set_option maxHeartbeats 4000000 in
set_option maxRecDepth 100000 in
theorem wX9_readClause_c9_0 {p : Program} {l : Launch} {e : Env} {s : State} {m : MethodId} {args : Array Value} {below : List Frame} {meth : Method} {c : Code} {D : va_G} {A : Nat → Prop} {q : Nat → Nat} {cI cZ : ClassId} {Q : State → Prop} {τ : St} (C : Cx p s m args meth c D (TY cI cZ) cX9_readClause none 3 wsX9_readClause RX9) (hret : RtV p l e rmX9_readClause_c9 s m args below meth c D A cX9_readClause Q (wE q cI cZ τ)) :
    ∀ (σ : St) (H : Heap) (locs : List Loc) (ls : Array Slot), Wd D A s (wE q cI cZ σ) H locs → lv_has ls 3 [(0, .ref (q 7)), (1, .ref (q 9))] → pX9_readClause_c9_0 σ = some τ → W p l e rmX9_readClause_c9 s m args below meth c H locs 0 0 Q (F0 m 0 ls []) := by
  obtain ⟨hx, hb, hr, hml, hown, hts, hlk, hK, hN⟩ := id C
  intro σ H locs ls hw hl hf
  rw [pX9_readClause_c9_0] at hf
  refine lv_aload_n hx hb dX9_readClause_0 rfl (lv_at hl 0 rfl) ?_
  obtain ⟨⟨r1, σ1⟩, h1, hf⟩ := bd_s hf
  have hf := hf2_s hf
  refine gVi (As := []) (rest := []) C hw (tX9_skipBlanks h1) (cwV 0 hts gX9_readClause_X9_skipBlanks rfl rfl rfl (by decide +kernel) ⟨Nat.le_of_ble_eq_true rfl, Nat.le_of_ble_eq_true rfl⟩) 9 7 rfl rfl rfl hl.1 rfl (Nat.le_of_ble_eq_true rfl) dX9_readClause_1 (fun H locs hw => ?_)
  refine lv_istore_n (lv' := [(2, .int (zI r1)), (0, .ref (q 7)), (1, .ref (q 9))]) hx hb dX9_readClause_4 rfl hl (by decide) rfl (fun ls hl => ?_)
  refine lv_iload_n hx hb dX9_readClause_5 rfl (lv_at hl 0 rfl) ?_
  refine lv_bipush (v := zI 112) hx hb dX9_readClause_6 (by decide +kernel) ?_
  obtain ⟨hg8, hf⟩ := gd_s hf
  refine zv_icmp_eq (tgt := 30) hx hb ⟨hg8, by decide⟩ dX9_readClause_8 (by decide) (fun (c8 : r1 = 112) => ?_) (fun (c8 : ¬ (r1 = 112)) => ?_)
  · rw [if_pos c8] at hf
    exact wX9_readClause_c9_30 C hret σ1 r1 H locs ls hw (lv_sub hl [1, 2, 0] rfl) hf
  · rw [if_neg c8] at hf
    refine lv_aload_n hx hb dX9_readClause_11 rfl (lv_at hl 2 rfl) ?_
    obtain ⟨r12, h12, hf⟩ := bd_s hf
    replace hf := bt_s hf
    refine gVi (As := []) (rest := []) C hw (tX8_isLaid_c9 h12) (cwV 0 hts gX9_readClause_X8_isLaid rfl rfl rfl (by decide +kernel) ⟨Nat.le_of_ble_eq_true rfl, Nat.le_of_ble_eq_true rfl⟩) 8 9 rfl rfl rfl hl.1 rfl (Nat.le_of_ble_eq_true rfl) dX9_readClause_12 (fun H locs hw => ?_)
    obtain ⟨hg15, hf⟩ := gd_s hf
    refine zv_if_ne (tgt := 30) hx hb hg15 dX9_readClause_15 (by decide) (fun (c15 : ¬ (r12 = 0)) => ?_) (fun (c15 : r12 = 0) => ?_)
    · rw [if_neg c15] at hf
      exact wX9_readClause_c9_30 C hret σ1 r1 H locs ls hw (lv_sub hl [1, 2, 0] rfl) hf
    · rw [if_pos c15] at hf
      refine lv_aload_n hx hb dX9_readClause_18 rfl (lv_at hl 1 rfl) ?_
      refine lv_iconst (v := zI 1) hx hb dX9_readClause_19 rfl ?_
      refine lv_aload_n hx hb dX9_readClause_20 rfl (lv_at hl 1 rfl) ?_
      refine va_get (D := D) (ci := 9) (v := .int (zI (σ1.1 8))) (C := RX9) (T := TX9) (N := 5) hx hb hts (fun _ h => List.mem_cons_of_mem _ (List.mem_append_left _ (List.mem_append_right _ h))) hown hK hw.1 7 rfl rfl 2 (by decide) (hts (.fieldLink RX9 19 "EggThrones$Text" "at" "I") (List.mem_of_getElem? (i := 1) rfl)) (fun _ h9 => h9) rfl dX9_readClause_21 ?_
      obtain ⟨σ24, h24, hf⟩ := bd_s hf
      replace hf := bt_s hf
      refine gVv (As := [.int (zI 1), .int (zI (σ1.1 8))]) (rest := []) C hw (tX9_find h24) (cwV 2 hts gX9_readClause_X9_find rfl rfl rfl (by decide +kernel) ⟨Nat.le_of_ble_eq_true rfl, Nat.le_of_ble_eq_true rfl⟩) 9 7 rfl rfl rfl hl.1 rfl (Nat.le_of_ble_eq_true rfl) dX9_readClause_24 (fun H locs hw => ?_)
      refine lv_goto (tgt := 81) hx hb dX9_readClause_27 (by decide) ?_
      cases hf
      exact hret H locs ls 81 dX9_readClause_81 hw
set_option maxHeartbeats 4000000 in
set_option maxRecDepth 100000 in
theorem tX9_readClause_c9 {l : Launch} {D : va_G} {A : Nat → Prop} {cI cZ : ClassId} {q : Nat → Nat} {σ : St} {τ : St} (hf : pX9_readClause_c9 σ = some τ) : Met l yX9_readClause wsX9_readClause rmX9_readClause_c9 (va_Pc [.ref (q 7), .ref (q 9)] (CX D (TY cI cZ) A (wE q cI cZ σ))) (QV D (TY cI cZ) A (wE q cI cZ τ)) 0 0 A := by
  refine opn (cc := cX9_readClause) (maxL := 3) (ret := none) (by decide) rfl (Nat.le_of_ble_eq_true rfl) (fun p e s m below meth c C ls hw hl => ?_)
  have hl : lv_has ls 3 [(0, .ref (q 7)), (1, .ref (q 9))] := hl
  rw [pX9_readClause_c9] at hf
  exact wX9_readClause_c9_0 C (rtV C) σ _ _ ls hw (lv_sub hl [0, 1] rfl) hf
abbrev rmX8_clear_c9 : Room := { frames := 0, cells := 0, slots := 0, locals := 0 }
set_option maxHeartbeats 4000000 in
set_option maxRecDepth 100000 in
theorem wX8_clear_c9_0 {p : Program} {l : Launch} {e : Env} {s : State} {m : MethodId} {args : Array Value} {below : List Frame} {meth : Method} {c : Code} {D : va_G} {A : Nat → Prop} {q : Nat → Nat} {cI cZ : ClassId} {Q : State → Prop} {τ : St} (C : Cx p s m args meth c D (TY cI cZ) cX8_clear none 1 wsX8_clear RX8) (hret : RtV p l e rmX8_clear_c9 s m args below meth c D A cX8_clear Q (wE q cI cZ τ)) :
    ∀ (σ : St) (H : Heap) (locs : List Loc) (ls : Array Slot), Wd D A s (wE q cI cZ σ) H locs → lv_has ls 1 [(0, .ref (q 9))] → pX8_clear_c9_0 σ = some τ → W p l e rmX8_clear_c9 s m args below meth c H locs 0 0 Q (F0 m 0 ls []) := by
  obtain ⟨hx, hb, hr, hml, hown, hts, hlk, hK, hN⟩ := id C
  intro σ H locs ls hw hl hf
  rw [pX8_clear_c9_0] at hf
  refine lv_aload_n hx hb dX8_clear_0 rfl (lv_at hl 0 rfl) ?_
  refine lv_iconst (v := zI 0) hx hb dX8_clear_1 rfl ?_
  refine va_put (D := D) (ci := 8) (v := .int (zI 0)) (ty := .int) (C := RX8) (T := TX8) (N := 10) hx hb hts (fun _ h => List.mem_cons_of_mem _ (List.mem_append_right _ h)) tyX8 tyX8_ok nmX8 hown hK hw.1 hw.2.1 hw.2.2 9 rfl rfl 0 (by decide) (hts (.fieldLink RX8 27 "EggThrones$Table" "places" "I") (List.mem_of_getElem? (i := 1) rfl)) (fun _ h9 => h9) rfl (by decide +kernel) rfl rfl (Nat.le_of_ble_eq_true rfl) dX8_clear_2 (fun H locs hP hD hS => ?_)
  have hw : Wd D A s (wE q cI cZ (sI σ 11 0)) H locs := wdiE_11 hP hD hS
  obtain ⟨σ2, e2, hf⟩ := nm_s hf
  replace hf := bt_s hf
  rw [← e2] at hw
  refine lv_aload_n hx hb dX8_clear_5 rfl (lv_at hl 0 rfl) ?_
  refine lv_iconst (v := zI 0) hx hb dX8_clear_6 rfl ?_
  refine va_put (D := D) (ci := 8) (v := .int (zI 0)) (ty := .int) (C := RX8) (T := TX8) (N := 10) hx hb hts (fun _ h => List.mem_cons_of_mem _ (List.mem_append_right _ h)) tyX8 tyX8_ok nmX8 hown hK hw.1 hw.2.1 hw.2.2 9 rfl rfl 1 (by decide) (hts (.fieldLink RX8 31 "EggThrones$Table" "toast" "I") (List.mem_of_getElem? (i := 2) rfl)) (fun _ h9 => h9) rfl (by decide +kernel) rfl rfl (Nat.le_of_ble_eq_true rfl) dX8_clear_7 (fun H locs hP hD hS => ?_)
  have hw : Wd D A s (wE q cI cZ (sI σ2 12 0)) H locs := wdiE_12 hP hD hS
  obtain ⟨σ7, e7, hf⟩ := nm_s hf
  replace hf := bt_s hf
  rw [← e7] at hw
  refine lv_aload_n hx hb dX8_clear_10 rfl (lv_at hl 0 rfl) ?_
  refine lv_iconst (v := zI 0) hx hb dX8_clear_11 rfl ?_
  refine va_put (D := D) (ci := 8) (v := .int (zI 0)) (ty := .int) (C := RX8) (T := TX8) (N := 10) hx hb hts (fun _ h => List.mem_cons_of_mem _ (List.mem_append_right _ h)) tyX8 tyX8_ok nmX8 hown hK hw.1 hw.2.1 hw.2.2 9 rfl rfl 2 (by decide) (hts (.fieldLink RX8 34 "EggThrones$Table" "limit" "I") (List.mem_of_getElem? (i := 3) rfl)) (fun _ h9 => h9) rfl (by decide +kernel) rfl rfl (Nat.le_of_ble_eq_true rfl) dX8_clear_12 (fun H locs hP hD hS => ?_)
  have hw : Wd D A s (wE q cI cZ (sI σ7 13 0)) H locs := wdiE_13 hP hD hS
  obtain ⟨σ12, e12, hf⟩ := nm_s hf
  replace hf := bt_s hf
  rw [← e12] at hw
  refine lv_aload_n hx hb dX8_clear_15 rfl (lv_at hl 0 rfl) ?_
  refine lv_iconst (v := zI 0) hx hb dX8_clear_16 rfl ?_
  refine va_put (D := D) (ci := 8) (v := .int (zI 0)) (ty := .int) (C := RX8) (T := TX8) (N := 10) hx hb hts (fun _ h => List.mem_cons_of_mem _ (List.mem_append_right _ h)) tyX8 tyX8_ok nmX8 hown hK hw.1 hw.2.1 hw.2.2 9 rfl rfl 3 (by decide) (hts (.fieldLink RX8 37 "EggThrones$Table" "eggs" "I") (List.mem_of_getElem? (i := 4) rfl)) (fun _ h9 => h9) rfl (by decide +kernel) rfl rfl (Nat.le_of_ble_eq_true rfl) dX8_clear_17 (fun H locs hP hD hS => ?_)
  have hw : Wd D A s (wE q cI cZ (sI σ12 14 0)) H locs := wdiE_14 hP hD hS
  obtain ⟨σ17, e17, hf⟩ := nm_s hf
  replace hf := bt_s hf
  rw [← e17] at hw
  refine lv_aload_n hx hb dX8_clear_20 rfl (lv_at hl 0 rfl) ?_
  refine lv_iconst (v := zI 0) hx hb dX8_clear_21 rfl ?_
  refine va_put (D := D) (ci := 8) (v := .int (zI 0)) (ty := .int) (C := RX8) (T := TX8) (N := 10) hx hb hts (fun _ h => List.mem_cons_of_mem _ (List.mem_append_right _ h)) tyX8 tyX8_ok nmX8 hown hK hw.1 hw.2.1 hw.2.2 9 rfl rfl 4 (by decide) (hts (.fieldLink RX8 40 "EggThrones$Table" "eaters" "I") (List.mem_of_getElem? (i := 5) rfl)) (fun _ h9 => h9) rfl (by decide +kernel) rfl rfl (Nat.le_of_ble_eq_true rfl) dX8_clear_22 (fun H locs hP hD hS => ?_)
  have hw : Wd D A s (wE q cI cZ (sI σ17 15 0)) H locs := wdiE_15 hP hD hS
  obtain ⟨σ22, e22, hf⟩ := nm_s hf
  replace hf := bt_s hf
  rw [← e22] at hw
  cases hf
  exact hret H locs ls 25 dX8_clear_25 hw
set_option maxHeartbeats 4000000 in
set_option maxRecDepth 100000 in
theorem tX8_clear_c9 {l : Launch} {D : va_G} {A : Nat → Prop} {cI cZ : ClassId} {q : Nat → Nat} {σ : St} {τ : St} (hf : pX8_clear_c9 σ = some τ) : Met l yX8_clear wsX8_clear rmX8_clear_c9 (va_Pc [.ref (q 9)] (CX D (TY cI cZ) A (wE q cI cZ σ))) (QV D (TY cI cZ) A (wE q cI cZ τ)) 0 0 A := by
  refine opn (cc := cX8_clear) (maxL := 1) (ret := none) (by decide) rfl (Nat.le_of_ble_eq_true rfl) (fun p e s m below meth c C ls hw hl => ?_)
  have hl : lv_has ls 1 [(0, .ref (q 9))] := hl
  rw [pX8_clear_c9] at hf
  exact wX8_clear_c9_0 C (rtV C) σ _ _ ls hw (lv_sub hl [0] rfl) hf
abbrev rmX9_readInto_c9 : Room := { frames := 5, cells := 0, slots := 0, locals := 113 }
set_option maxHeartbeats 4000000 in
set_option maxRecDepth 100000 in
theorem wX9_readInto_c9_54 {p : Program} {l : Launch} {e : Env} {s : State} {m : MethodId} {args : Array Value} {below : List Frame} {meth : Method} {c : Code} {D : va_G} {A : Nat → Prop} {q : Nat → Nat} {cI cZ : ClassId} {Q : State → Prop} {r : Int} {τ : St} (C : Cx p s m args meth c D (TY cI cZ) cX9_readInto (some .int) 3 wsX9_readInto RX9) (hret : RtI p l e rmX9_readInto_c9 s m args below meth c D A cX9_readInto Q (wE q cI cZ τ) (zI r)) :
    ∀ (σ : St) (H : Heap) (locs : List Loc) (ls : Array Slot), Wd D A s (wE q cI cZ σ) H locs → lv_has ls 3 [(0, .ref (q 7))] → pX9_readInto_c9_54 σ = some (r, τ) → W p l e rmX9_readInto_c9 s m args below meth c H locs 0 0 Q (F0 m 54 ls []) := by
  obtain ⟨hx, hb, hr, hml, hown, hts, hlk, hK, hN⟩ := id C
  intro σ H locs ls hw hl hf
  rw [pX9_readInto_c9_54] at hf
  refine lv_aload_n hx hb dX9_readInto_54 rfl (lv_at hl 0 rfl) ?_
  refine va_get (D := D) (ci := 9) (v := .int (zI (σ.1 9))) (C := RX9) (T := TX9) (N := 5) hx hb hts (fun _ h => List.mem_cons_of_mem _ (List.mem_append_left _ (List.mem_append_right _ h))) hown hK hw.1 7 rfl rfl 3 (by decide) (hts (.fieldLink RX9 22 "EggThrones$Text" "faultNumber" "I") (List.mem_of_getElem? (i := 2) rfl)) (fun _ h9 => h9) rfl dX9_readInto_55 ?_
  cases hf
  exact hret H locs ls 58 dX9_readInto_58 hw
set_option maxHeartbeats 4000000 in
set_option maxRecDepth 100000 in
theorem wX9_readInto_c9_21 {p : Program} {l : Launch} {e : Env} {s : State} {m : MethodId} {args : Array Value} {below : List Frame} {meth : Method} {c : Code} {D : va_G} {A : Nat → Prop} {q : Nat → Nat} {cI cZ : ClassId} {Q : State → Prop} {r : Int} {τ : St} (C : Cx p s m args meth c D (TY cI cZ) cX9_readInto (some .int) 3 wsX9_readInto RX9) (hret : RtI p l e rmX9_readInto_c9 s m args below meth c D A cX9_readInto Q (wE q cI cZ τ) (zI r)) :
    ∀ (n : Nat) (σ : St) (x2 : Int) (H : Heap) (locs : List Loc) (ls : Array Slot), Wd D A s (wE q cI cZ σ) H locs → lv_has ls 3 [(0, .ref (q 7)), (1, .ref (q 9)), (2, .int (zI x2))] → pX9_readInto_c9_21 n σ x2 = some (r, τ) → W p l e rmX9_readInto_c9 s m args below meth c H locs 0 0 Q (F0 m 21 ls []) := by
  obtain ⟨hx, hb, hr, hml, hown, hts, hlk, hK, hN⟩ := id C
  intro n
  induction n with
  | zero =>
    intro σ x2 H locs ls hw hl hf
    exact absurd (show (none : Option (Int × St)) = some (r, τ) from hf) (by simp)
  | succ n ih =>
    intro σ x2 H locs ls hw hl hf
    rw [pX9_readInto_c9_21] at hf
    refine lv_iload_n hx hb dX9_readInto_21 rfl (lv_at hl 2 rfl) ?_
    refine lv_sipush (v := zI 240) hx hb dX9_readInto_22 (by decide +kernel) ?_
    obtain ⟨hg25, hf⟩ := gd_s hf
    refine zv_icmp_ge (tgt := 54) hx hb ⟨hg25, by decide⟩ dX9_readInto_25 (by decide) (fun (c25 : 240 ≤ x2) => ?_) (fun (c25 : ¬ (240 ≤ x2)) => ?_)
    · rw [if_pos c25] at hf
      exact wX9_readInto_c9_54 C hret σ H locs ls hw (lv_sub hl [0] rfl) hf
    · rw [if_neg c25] at hf
      refine lv_aload_n hx hb dX9_readInto_28 rfl (lv_at hl 0 rfl) ?_
      refine va_get (D := D) (ci := 9) (v := .int (zI (σ.1 9))) (C := RX9) (T := TX9) (N := 5) hx hb hts (fun _ h => List.mem_cons_of_mem _ (List.mem_append_left _ (List.mem_append_right _ h))) hown hK hw.1 7 rfl rfl 3 (by decide) (hts (.fieldLink RX9 22 "EggThrones$Text" "faultNumber" "I") (List.mem_of_getElem? (i := 2) rfl)) (fun _ h9 => h9) rfl dX9_readInto_29 ?_
      obtain ⟨hg32, hf⟩ := gd_s hf
      refine zv_if_ne (tgt := 54) hx hb hg32 dX9_readInto_32 (by decide) (fun (c32 : ¬ ((σ.1 9) = 0)) => ?_) (fun (c32 : (σ.1 9) = 0) => ?_)
      · rw [if_neg c32] at hf
        exact wX9_readInto_c9_54 C hret σ H locs ls hw (lv_sub hl [0] rfl) hf
      · rw [if_pos c32] at hf
        refine lv_aload_n hx hb dX9_readInto_35 rfl (lv_at hl 0 rfl) ?_
        obtain ⟨⟨r36, σ36⟩, h36, hf⟩ := bd_s hf
        have hf := hf2_s hf
        refine gVi (As := []) (rest := []) C hw (tX9_skipBlanks h36) (cwV 0 hts gX9_readInto_X9_skipBlanks rfl rfl rfl (by decide +kernel) ⟨Nat.le_of_ble_eq_true rfl, Nat.le_of_ble_eq_true rfl⟩) 9 7 rfl rfl rfl hl.1 rfl (Nat.le_of_ble_eq_true rfl) dX9_readInto_36 (fun H locs hw => ?_)
        refine lv_iconst (v := zI (-1)) hx hb dX9_readInto_39 rfl ?_
        obtain ⟨hg40, hf⟩ := gd_s hf
        refine zv_icmp_eq (tgt := 54) hx hb ⟨hg40, by decide⟩ dX9_readInto_40 (by decide) (fun (c40 : r36 = (-1)) => ?_) (fun (c40 : ¬ (r36 = (-1))) => ?_)
        · rw [if_pos c40] at hf
          exact wX9_readInto_c9_54 C hret σ36 H locs ls hw (lv_sub hl [0] rfl) hf
        · rw [if_neg c40] at hf
          refine lv_aload_n hx hb dX9_readInto_43 rfl (lv_at hl 0 rfl) ?_
          refine lv_aload_n hx hb dX9_readInto_44 rfl (lv_at hl 1 rfl) ?_
          obtain ⟨σ45, h45, hf⟩ := bd_s hf
          replace hf := bt_s hf
          refine gVv (As := [.ref (q 9)]) (rest := []) C hw (tX9_readClause_c9 h45) (cwV 1 hts gX9_readInto_X9_readClause rfl rfl rfl (by decide +kernel) ⟨Nat.le_of_ble_eq_true rfl, Nat.le_of_ble_eq_true rfl⟩) 9 7 rfl rfl rfl hl.1 rfl (Nat.le_of_ble_eq_true rfl) dX9_readInto_45 (fun H locs hw => ?_)
          refine lv_iinc (v := zI (x2 + 1)) (lv' := [(2, .int (zI (x2 + 1))), (0, .ref (q 7)), (1, .ref (q 9))]) hx hb dX9_readInto_48 hl (k := 2) rfl (zI_add _ _) (by decide) rfl (fun ls hl => ?_)
          refine lv_goto (tgt := 21) hx hb dX9_readInto_51 (by decide) ?_
          exact ih σ45 (x2 + 1) H locs ls hw (lv_sub hl [1, 2, 0] rfl) hf
set_option maxHeartbeats 4000000 in
set_option maxRecDepth 100000 in
theorem wX9_readInto_c9_0 {p : Program} {l : Launch} {e : Env} {s : State} {m : MethodId} {args : Array Value} {below : List Frame} {meth : Method} {c : Code} {D : va_G} {A : Nat → Prop} {q : Nat → Nat} {cI cZ : ClassId} {Q : State → Prop} {r : Int} {τ : St} (C : Cx p s m args meth c D (TY cI cZ) cX9_readInto (some .int) 3 wsX9_readInto RX9) (hret : RtI p l e rmX9_readInto_c9 s m args below meth c D A cX9_readInto Q (wE q cI cZ τ) (zI r)) :
    ∀ (σ : St) (H : Heap) (locs : List Loc) (ls : Array Slot), Wd D A s (wE q cI cZ σ) H locs → lv_has ls 3 [(0, .ref (q 7)), (1, .ref (q 9))] → pX9_readInto_c9_0 σ = some (r, τ) → W p l e rmX9_readInto_c9 s m args below meth c H locs 0 0 Q (F0 m 0 ls []) := by
  obtain ⟨hx, hb, hr, hml, hown, hts, hlk, hK, hN⟩ := id C
  intro σ H locs ls hw hl hf
  rw [pX9_readInto_c9_0] at hf
  refine lv_aload_n hx hb dX9_readInto_0 rfl (lv_at hl 1 rfl) ?_
  obtain ⟨σ1, h1, hf⟩ := bd_s hf
  replace hf := bt_s hf
  refine gVv (As := []) (rest := []) C hw (tX8_clear_c9 h1) (cwV 0 hts gX9_readInto_X8_clear rfl rfl rfl (by decide +kernel) ⟨Nat.le_of_ble_eq_true rfl, Nat.le_of_ble_eq_true rfl⟩) 8 9 rfl rfl rfl hl.1 rfl (Nat.le_of_ble_eq_true rfl) dX9_readInto_1 (fun H locs hw => ?_)
  refine lv_aload_n hx hb dX9_readInto_4 rfl (lv_at hl 0 rfl) ?_
  refine lv_iconst (v := zI 0) hx hb dX9_readInto_5 rfl ?_
  refine va_put (D := D) (ci := 9) (v := .int (zI 0)) (ty := .int) (C := RX9) (T := TX9) (N := 5) hx hb hts (fun _ h => List.mem_cons_of_mem _ (List.mem_append_left _ (List.mem_append_right _ h))) tyX9 tyX9_ok nmX9 hown hK hw.1 hw.2.1 hw.2.2 7 rfl rfl 2 (by decide) (hts (.fieldLink RX9 19 "EggThrones$Text" "at" "I") (List.mem_of_getElem? (i := 1) rfl)) (fun _ h9 => h9) rfl (by decide +kernel) rfl rfl (Nat.le_of_ble_eq_true rfl) dX9_readInto_6 (fun H locs hP hD hS => ?_)
  have hw : Wd D A s (wE q cI cZ (sI σ1 8 0)) H locs := wdiE_8 hP hD hS
  obtain ⟨σ6, e6, hf⟩ := nm_s hf
  replace hf := bt_s hf
  rw [← e6] at hw
  refine lv_aload_n hx hb dX9_readInto_9 rfl (lv_at hl 0 rfl) ?_
  refine lv_iconst (v := zI 0) hx hb dX9_readInto_10 rfl ?_
  refine va_put (D := D) (ci := 9) (v := .int (zI 0)) (ty := .int) (C := RX9) (T := TX9) (N := 5) hx hb hts (fun _ h => List.mem_cons_of_mem _ (List.mem_append_left _ (List.mem_append_right _ h))) tyX9 tyX9_ok nmX9 hown hK hw.1 hw.2.1 hw.2.2 7 rfl rfl 3 (by decide) (hts (.fieldLink RX9 22 "EggThrones$Text" "faultNumber" "I") (List.mem_of_getElem? (i := 2) rfl)) (fun _ h9 => h9) rfl (by decide +kernel) rfl rfl (Nat.le_of_ble_eq_true rfl) dX9_readInto_11 (fun H locs hP hD hS => ?_)
  have hw : Wd D A s (wE q cI cZ (sI σ6 9 0)) H locs := wdiE_9 hP hD hS
  obtain ⟨σ11, e11, hf⟩ := nm_s hf
  replace hf := bt_s hf
  rw [← e11] at hw
  refine lv_aload_n hx hb dX9_readInto_14 rfl (lv_at hl 0 rfl) ?_
  refine lv_iconst (v := zI (-1)) hx hb dX9_readInto_15 rfl ?_
  refine va_put (D := D) (ci := 9) (v := .int (zI (-1))) (ty := .int) (C := RX9) (T := TX9) (N := 5) hx hb hts (fun _ h => List.mem_cons_of_mem _ (List.mem_append_left _ (List.mem_append_right _ h))) tyX9 tyX9_ok nmX9 hown hK hw.1 hw.2.1 hw.2.2 7 rfl rfl 4 (by decide) (hts (.fieldLink RX9 25 "EggThrones$Text" "faultAt" "I") (List.mem_of_getElem? (i := 3) rfl)) (fun _ h9 => h9) rfl (by decide +kernel) rfl rfl (Nat.le_of_ble_eq_true rfl) dX9_readInto_16 (fun H locs hP hD hS => ?_)
  have hw : Wd D A s (wE q cI cZ (sI σ11 10 (-1))) H locs := wdiE_10 hP hD hS
  obtain ⟨σ16, e16, hf⟩ := nm_s hf
  replace hf := bt_s hf
  rw [← e16] at hw
  refine lv_iconst (v := zI 0) hx hb dX9_readInto_19 rfl ?_
  refine lv_istore_n (lv' := [(2, .int (zI 0)), (0, .ref (q 7)), (1, .ref (q 9))]) hx hb dX9_readInto_20 rfl hl (by decide) rfl (fun ls hl => ?_)
  exact wX9_readInto_c9_21 C hret FU σ16 0 H locs ls hw (lv_sub hl [1, 2, 0] rfl) hf
set_option maxHeartbeats 4000000 in
set_option maxRecDepth 100000 in
theorem tX9_readInto_c9 {l : Launch} {D : va_G} {A : Nat → Prop} {cI cZ : ClassId} {q : Nat → Nat} {σ : St} {r : Int} {τ : St} (hf : pX9_readInto_c9 σ = some (r, τ)) : Met l yX9_readInto wsX9_readInto rmX9_readInto_c9 (va_Pc [.ref (q 7), .ref (q 9)] (CX D (TY cI cZ) A (wE q cI cZ σ))) (QI D (TY cI cZ) A (wE q cI cZ τ) (zI r)) 0 0 A := by
  refine opn (cc := cX9_readInto) (maxL := 3) (ret := (some .int)) (by decide) rfl (Nat.le_of_ble_eq_true rfl) (fun p e s m below meth c C ls hw hl => ?_)
  have hl : lv_has ls 3 [(0, .ref (q 7)), (1, .ref (q 9))] := hl
  rw [pX9_readInto_c9] at hf
  exact wX9_readInto_c9_0 C (rtI C) σ _ _ ls hw (lv_sub hl [0, 1] rfl) hf
