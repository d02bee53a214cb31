abbrev rmX10_isWithin : Room := { frames := 0, cells := 0, slots := 0, locals := 0 }
set_option maxHeartbeats 4000000 in
set_option maxRecDepth 100000 in
theorem wX10_isWithin_0 {p : Program} {l : Launch} {e : Env} {s : State} {m : MethodId} {args : Array Value} {below : List Frame} {meth : Method} {c : Code} {D : va_G} {A : Nat → Prop} {w : va_W} {cI cZ : ClassId} {Q : State → Prop} {r : Int} (C : Cx p s m args meth c D (TY cI cZ) cX10_isWithin (some .boolean) 3 wsX10_isWithin RX10) (hret : RtZ p l e rmX10_isWithin s m args below meth c D A cX10_isWithin Q (w) (zI r)) :
    ∀ (x0 : Int) (x1 : Int) (x2 : Int) (H : Heap) (locs : List Loc) (ls : Array Slot), Wd D A s (w) H locs → lv_has ls 3 [(0, .int (zI x0)), (1, .int (zI x1)), (2, .int (zI x2))] → pX10_isWithin_0 x0 x1 x2 = some r → W p l e rmX10_isWithin s m args below meth c H locs 0 0 Q (F0 m 0 ls []) := by
  obtain ⟨hx, hb, hr, hml, hown, hts, hlk, hK, hN⟩ := id C
  intro x0 x1 x2 H locs ls hw hl hf
  rw [pX10_isWithin_0] at hf
  refine lv_iload_n hx hb dX10_isWithin_0 rfl (lv_at hl 0 rfl) ?_
  refine lv_iload_n hx hb dX10_isWithin_1 rfl (lv_at hl 1 rfl) ?_
  obtain ⟨hg2, hf⟩ := gd_s hf
  refine zv_icmp_lt (tgt := 14) hx hb hg2 dX10_isWithin_2 (by decide) (fun (c2 : x0 < x1) => ?_) (fun (c2 : ¬ (x0 < x1)) => ?_)
  · rw [if_pos c2] at hf
    refine lv_iconst (v := zI 0) hx hb dX10_isWithin_14 rfl ?_
    cases hf
    exact hret H locs ls 15 dX10_isWithin_15 (by decide +kernel) hw
  · rw [if_neg c2] at hf
    refine lv_iload_n hx hb dX10_isWithin_5 rfl (lv_at hl 0 rfl) ?_
    refine lv_iload_n hx hb dX10_isWithin_6 rfl (lv_at hl 2 rfl) ?_
    obtain ⟨hg7, hf⟩ := gd_s hf
    refine zv_icmp_gt (tgt := 14) hx hb hg7 dX10_isWithin_7 (by decide) (fun (c7 : x2 < x0) => ?_) (fun (c7 : ¬ (x2 < x0)) => ?_)
    · rw [if_pos c7] at hf
      refine lv_iconst (v := zI 0) hx hb dX10_isWithin_14 rfl ?_
      cases hf
      exact hret H locs ls 15 dX10_isWithin_15 (by decide +kernel) hw
    · rw [if_neg c7] at hf
      refine lv_iconst (v := zI 1) hx hb dX10_isWithin_10 rfl ?_
      refine lv_goto (tgt := 15) hx hb dX10_isWithin_11 (by decide) ?_
      cases hf
      exact hret H locs ls 15 dX10_isWithin_15 (by decide +kernel) hw
set_option maxHeartbeats 4000000 in
set_option maxRecDepth 100000 in
theorem tX10_isWithin {l : Launch} {D : va_G} {A : Nat → Prop} {cI cZ : ClassId} {w : va_W} {x0 : Int} {x1 : Int} {x2 : Int} {r : Int} (hf : pX10_isWithin x0 x1 x2 = some r) : Met l yX10_isWithin wsX10_isWithin rmX10_isWithin (va_Pc [.int (zI x0), .int (zI x1), .int (zI x2)] (CX D (TY cI cZ) A (w))) (QI D (TY cI cZ) A (w) (zI r)) 0 0 A := by
  refine opn (cc := cX10_isWithin) (maxL := 3) (ret := (some .boolean)) (by decide) rfl (Nat.le_of_ble_eq_true rfl) (fun p e s m below meth c C ls hw hl => ?_)
  have hl : lv_has ls 3 [(0, .int (zI x0)), (1, .int (zI x1)), (2, .int (zI x2))] := hl
  rw [pX10_isWithin] at hf
  exact wX10_isWithin_0 C (rtZ C) x0 x1 x2 _ _ ls hw (lv_sub hl [0, 1, 2] rfl) hf
abbrev rmX9_add : Room := { frames := 0, cells := 0, slots := 0, locals := 0 }
set_option maxHeartbeats 4000000 in
set_option maxRecDepth 100000 in
theorem wX9_add_0 {p : Program} {l : Launch} {e : Env} {s : State} {m : MethodId} {args : Array Value} {below : List Frame} {meth : Method} {c : Code} {D : va_G} {A : Nat → Prop} {q : Nat → Nat} {cI cZ : ClassId} {Q : State → Prop} {r : Int} {τ : St} (C : Cx p s m args meth c D (TY cI cZ) cX9_add (some .boolean) 2 wsX9_add RX9) (hret : RtZ p l e rmX9_add s m args below meth c D A cX9_add Q (wE q cI cZ τ) (zI r)) :
    ∀ (σ : St) (x1 : Int) (H : Heap) (locs : List Loc) (ls : Array Slot), Wd D A s (wE q cI cZ σ) H locs → lv_has ls 2 [(0, .ref (q 7)), (1, .int (zI x1))] → pX9_add_0 σ x1 = some (r, τ) → W p l e rmX9_add s m args below meth c H locs 0 0 Q (F0 m 0 ls []) := by
  obtain ⟨hx, hb, hr, hml, hown, hts, hlk, hK, hN⟩ := id C
  intro σ x1 H locs ls hw hl hf
  rw [pX9_add_0] at hf
  refine lv_aload_n hx hb dX9_add_0 rfl (lv_at hl 0 rfl) ?_
  refine va_get (D := D) (ci := 9) (v := .int (zI (σ.1 7))) (C := RX9) (T := TX9) (N := 5) hx hb hts (fun _ h => List.mem_cons_of_mem _ (List.mem_append_right _ h)) hown hK hw.1 7 rfl rfl 1 (by decide) (hts (.fieldLink RX9 15 "EggThrones$Text" "count" "I") (List.mem_of_getElem? (i := 1) rfl)) (fun _ h9 => h9) rfl dX9_add_1 ?_
  obtain ⟨hg4, hf⟩ := gd_s hf
  refine zv_if_lt (tgt := 17) hx hb hg4 dX9_add_4 (by decide) (fun (c4 : (σ.1 7) < 0) => ?_) (fun (c4 : ¬ ((σ.1 7) < 0)) => ?_)
  · rw [if_pos c4] at hf
    refine lv_iconst (v := zI 0) hx hb dX9_add_17 rfl ?_
    cases hf
    exact hret H locs ls 18 dX9_add_18 (by decide +kernel) hw
  · rw [if_neg c4] at hf
    refine lv_aload_n hx hb dX9_add_7 rfl (lv_at hl 0 rfl) ?_
    refine va_get (D := D) (ci := 9) (v := .int (zI (σ.1 7))) (C := RX9) (T := TX9) (N := 5) hx hb hts (fun _ h => List.mem_cons_of_mem _ (List.mem_append_right _ h)) hown hK hw.1 7 rfl rfl 1 (by decide) (hts (.fieldLink RX9 15 "EggThrones$Text" "count" "I") (List.mem_of_getElem? (i := 1) rfl)) (fun _ h9 => h9) rfl dX9_add_8 ?_
    refine lv_sipush (v := zI 240) hx hb dX9_add_11 (by decide +kernel) ?_
    obtain ⟨hg14, hf⟩ := gd_s hf
    refine zv_icmp_lt (tgt := 19) hx hb ⟨hg14, by decide⟩ dX9_add_14 (by decide) (fun (c14 : (σ.1 7) < 240) => ?_) (fun (c14 : ¬ ((σ.1 7) < 240)) => ?_)
    · rw [if_pos c14] at hf
      refine lv_aload_n hx hb dX9_add_19 rfl (lv_at hl 0 rfl) ?_
      refine va_get (D := D) (ci := 9) (v := .ref (q 8)) (C := RX9) (T := TX9) (N := 5) hx hb hts (fun _ h => List.mem_cons_of_mem _ (List.mem_append_right _ h)) hown hK hw.1 7 rfl rfl 0 (by decide) (hts (.fieldLink RX9 9 "EggThrones$Text" "letters" "[I") (List.mem_of_getElem? (i := 2) rfl)) (fun _ h9 => h9) rfl dX9_add_20 ?_
      refine lv_aload_n hx hb dX9_add_23 rfl (lv_at hl 0 rfl) ?_
      refine va_get (D := D) (ci := 9) (v := .int (zI (σ.1 7))) (C := RX9) (T := TX9) (N := 5) hx hb hts (fun _ h => List.mem_cons_of_mem _ (List.mem_append_right _ h)) hown hK hw.1 7 rfl rfl 1 (by decide) (hts (.fieldLink RX9 15 "EggThrones$Text" "count" "I") (List.mem_of_getElem? (i := 1) rfl)) (fun _ h9 => h9) rfl dX9_add_24 ?_
      refine lv_iload_n hx hb dX9_add_27 rfl (lv_at hl 1 rfl) ?_
      obtain ⟨hi28, hf⟩ := gd_s hf
      refine zv_iast (D := D) hx hb hK hw.1 hw.2.1 hw.2.2 8 0 rfl rfl hi28 (by decide) dX9_add_28 (fun H locs hP hD hS => ?_)
      have hw : Wd D A s (wE q cI cZ (sA σ 5 (va_up (σ.2 5) (Int.toNat (σ.1 7)) x1))) H locs := wdaE_5 hP hD hS
      obtain ⟨σ28, e28, hf⟩ := nm_s hf
      replace hf := bt_s hf
      rw [← e28] at hw
      refine lv_aload_n hx hb dX9_add_29 rfl (lv_at hl 0 rfl) ?_
      refine lv_dup hx hb dX9_add_30 rfl ?_
      refine va_get (D := D) (ci := 9) (v := .int (zI (σ28.1 7))) (C := RX9) (T := TX9) (N := 5) hx hb hts (fun _ h => List.mem_cons_of_mem _ (List.mem_append_right _ h)) hown hK hw.1 7 rfl rfl 1 (by decide) (hts (.fieldLink RX9 15 "EggThrones$Text" "count" "I") (List.mem_of_getElem? (i := 1) rfl)) (fun _ h9 => h9) rfl dX9_add_31 ?_
      refine lv_iconst (v := zI 1) hx hb dX9_add_34 rfl ?_
      refine zv_iadd hx hb dX9_add_35 ?_
      refine va_put (D := D) (ci := 9) (v := .int (zI ((σ28.1 7) + 1))) (ty := .int) (C := RX9) (T := TX9) (N := 5) hx hb hts (fun _ h => List.mem_cons_of_mem _ (List.mem_append_right _ h)) tyX9 tyX9_ok nmX9 hown hK hw.1 hw.2.1 hw.2.2 7 rfl rfl 1 (by decide) (hts (.fieldLink RX9 15 "EggThrones$Text" "count" "I") (List.mem_of_getElem? (i := 1) rfl)) (fun _ h9 => h9) rfl (by decide +kernel) rfl rfl (Nat.le_of_ble_eq_true rfl) dX9_add_36 (fun H locs hP hD hS => ?_)
      have hw : Wd D A s (wE q cI cZ (sI σ28 7 ((σ28.1 7) + 1))) H locs := wdiE_7 hP hD hS
      obtain ⟨σ36, e36, hf⟩ := nm_s hf
      replace hf := bt_s hf
      rw [← e36] at hw
      refine lv_iconst (v := zI 1) hx hb dX9_add_39 rfl ?_
      cases hf
      exact hret H locs ls 40 dX9_add_40 (by decide +kernel) hw
    · rw [if_neg c14] at hf
      refine lv_iconst (v := zI 0) hx hb dX9_add_17 rfl ?_
      cases hf
      exact hret H locs ls 18 dX9_add_18 (by decide +kernel) hw
set_option maxHeartbeats 4000000 in
set_option maxRecDepth 100000 in
theorem tX9_add {l : Launch} {D : va_G} {A : Nat → Prop} {cI cZ : ClassId} {q : Nat → Nat} {σ : St} {x1 : Int} {r : Int} {τ : St} (hf : pX9_add σ x1 = some (r, τ)) : Met l yX9_add wsX9_add rmX9_add (va_Pc [.ref (q 7), .int (zI x1)] (CX D (TY cI cZ) A (wE q cI cZ σ))) (QI D (TY cI cZ) A (wE q cI cZ τ) (zI r)) 0 0 A := by
  refine opn (cc := cX9_add) (maxL := 2) (ret := (some .boolean)) (by decide) rfl (Nat.le_of_ble_eq_true rfl) (fun p e s m below meth c C ls hw hl => ?_)
  have hl : lv_has ls 2 [(0, .ref (q 7)), (1, .int (zI x1))] := hl
  rw [pX9_add] at hf
  exact wX9_add_0 C (rtZ C) σ x1 _ _ ls hw (lv_sub hl [0, 1] rfl) hf
abbrev rmX9_length : Room := { frames := 0, cells := 0, slots := 0, locals := 0 }
set_option maxHeartbeats 4000000 in
set_option maxRecDepth 100000 in
theorem wX9_length_0 {p : Program} {l : Launch} {e : Env} {s : State} {m : MethodId} {args : Array Value} {below : List Frame} {meth : Method} {c : Code} {D : va_G} {A : Nat → Prop} {q : Nat → Nat} {cI cZ : ClassId} {Q : State → Prop} {σ : St} {r : Int} (C : Cx p s m args meth c D (TY cI cZ) cX9_length (some .int) 1 wsX9_length RX9) (hret : RtI p l e rmX9_length s m args below meth c D A cX9_length Q (wE q cI cZ σ) (zI r)) :
    ∀ (H : Heap) (locs : List Loc) (ls : Array Slot), Wd D A s (wE q cI cZ σ) H locs → lv_has ls 1 [(0, .ref (q 7))] → pX9_length_0 σ = some r → W p l e rmX9_length s m args below meth c H locs 0 0 Q (F0 m 0 ls []) := by
  obtain ⟨hx, hb, hr, hml, hown, hts, hlk, hK, hN⟩ := id C
  intro H locs ls hw hl hf
  rw [pX9_length_0] at hf
  refine lv_aload_n hx hb dX9_length_0 rfl (lv_at hl 0 rfl) ?_
  refine va_get (D := D) (ci := 9) (v := .int (zI (σ.1 7))) (C := RX9) (T := TX9) (N := 5) hx hb hts (fun _ h => List.mem_cons_of_mem _ (List.mem_append_right _ h)) hown hK hw.1 7 rfl rfl 1 (by decide) (hts (.fieldLink RX9 15 "EggThrones$Text" "count" "I") (List.mem_of_getElem? (i := 1) rfl)) (fun _ h9 => h9) rfl dX9_length_1 ?_
  cases hf
  exact hret H locs ls 4 dX9_length_4 hw
set_option maxHeartbeats 4000000 in
set_option maxRecDepth 100000 in
theorem tX9_length {l : Launch} {D : va_G} {A : Nat → Prop} {cI cZ : ClassId} {q : Nat → Nat} {σ : St} {r : Int} (hf : pX9_length σ = some r) : Met l yX9_length wsX9_length rmX9_length (va_Pc [.ref (q 7)] (CX D (TY cI cZ) A (wE q cI cZ σ))) (QI D (TY cI cZ) A (wE q cI cZ σ) (zI r)) 0 0 A := by
  refine opn (cc := cX9_length) (maxL := 1) (ret := (some .int)) (by decide) rfl (Nat.le_of_ble_eq_true rfl) (fun p e s m below meth c C ls hw hl => ?_)
  have hl : lv_has ls 1 [(0, .ref (q 7))] := hl
  rw [pX9_length] at hf
  exact wX9_length_0 C (rtI C) _ _ ls hw (lv_sub hl [0] rfl) hf
abbrev rmX10_feed : Room := { frames := 1, cells := 0, slots := 0, locals := 22 }
set_option maxHeartbeats 4000000 in
set_option maxRecDepth 100000 in
theorem wX10_feed_0 {p : Program} {l : Launch} {e : Env} {s : State} {m : MethodId} {args : Array Value} {below : List Frame} {meth : Method} {c : Code} {D : va_G} {A : Nat → Prop} {q : Nat → Nat} {cI cZ : ClassId} {Q : State → Prop} {r : Int} {τ : St} (C : Cx p s m args meth c D (TY cI cZ) cX10_feed (some .int) 2 wsX10_feed RX10) (hret : RtI p l e rmX10_feed s m args below meth c D A cX10_feed Q (wE q cI cZ τ) (zI r)) :
    ∀ (σ : St) (x1 : Int) (H : Heap) (locs : List Loc) (ls : Array Slot), Wd D A s (wE q cI cZ σ) H locs → lv_has ls 2 [(0, .ref (q 0)), (1, .int (zI x1))] → pX10_feed_0 σ x1 = some (r, τ) → W p l e rmX10_feed s m args below meth c H locs 0 0 Q (F0 m 0 ls []) := by
  obtain ⟨hx, hb, hr, hml, hown, hts, hlk, hK, hN⟩ := id C
  intro σ x1 H locs ls hw hl hf
  rw [pX10_feed_0] at hf
  refine lv_iload_n hx hb dX10_feed_0 rfl (lv_at hl 1 rfl) ?_
  refine lv_iconst (v := zI 0) hx hb dX10_feed_1 rfl ?_
  refine lv_sipush (v := zI 255) hx hb dX10_feed_2 (by decide +kernel) ?_
  obtain ⟨r5, h5, hf⟩ := bd_s hf
  replace hf := bt_s hf
  refine gSi (As := [.int (zI x1), .int (zI 0), .int (zI 255)]) (rest := []) C hw (tX10_isWithin h5) (va_cwS 3 hts gX10_feed_X10_isWithin rfl rfl rfl (by decide +kernel) ⟨Nat.le_of_ble_eq_true rfl, Nat.le_of_ble_eq_true rfl⟩) rfl hl.1 rfl (Nat.le_of_ble_eq_true rfl) dX10_feed_5 (fun H locs hw => ?_)
  obtain ⟨hg8, hf⟩ := gd_s hf
  refine zv_if_ne (tgt := 14) hx hb hg8 dX10_feed_8 (by decide) (fun (c8 : ¬ (r5 = 0)) => ?_) (fun (c8 : r5 = 0) => ?_)
  · rw [if_neg c8] at hf
    refine lv_aload_n hx hb dX10_feed_14 rfl (lv_at hl 0 rfl) ?_
    refine va_get (D := D) (ci := 10) (v := .ref (q 7)) (C := RX10) (T := TX10) (N := 13) hx hb hts (fun _ h => List.mem_cons_of_mem _ (List.mem_append_left _ (List.mem_append_right _ h))) hown hK hw.1 0 rfl rfl 0 (by decide) (hts (.fieldLink RX10 13 "EggThrones" "text" "LEggThrones$Text;") (List.mem_of_getElem? (i := 2) rfl)) (fun _ h9 => h9) rfl dX10_feed_15 ?_
    refine lv_iload_n hx hb dX10_feed_18 rfl (lv_at hl 1 rfl) ?_
    obtain ⟨⟨r19, σ19⟩, h19, hf⟩ := bd_s hf
    have hf := hf2_s hf
    refine gVi (As := [.int (zI x1)]) (rest := []) C hw (tX9_add h19) (cwV 1 hts gX10_feed_X9_add rfl rfl rfl (by decide +kernel) ⟨Nat.le_of_ble_eq_true rfl, Nat.le_of_ble_eq_true rfl⟩) 9 7 rfl rfl rfl hl.1 rfl (Nat.le_of_ble_eq_true rfl) dX10_feed_19 (fun H locs hw => ?_)
    obtain ⟨hg22, hf⟩ := gd_s hf
    refine zv_if_eq (tgt := 35) hx hb hg22 dX10_feed_22 (by decide) (fun (c22 : r19 = 0) => ?_) (fun (c22 : ¬ (r19 = 0)) => ?_)
    · rw [if_pos c22] at hf
      refine zv_ldc hx hb (-1000000004) (by decide +kernel) hown (hts (.constant RX10 104 (-1000000004)) (List.mem_of_getElem? (i := 3) rfl)) dX10_feed_35 ?_
      cases hf
      exact hret H locs ls 37 dX10_feed_37 hw
    · rw [if_neg c22] at hf
      refine lv_aload_n hx hb dX10_feed_25 rfl (lv_at hl 0 rfl) ?_
      refine va_get (D := D) (ci := 10) (v := .ref (q 7)) (C := RX10) (T := TX10) (N := 13) hx hb hts (fun _ h => List.mem_cons_of_mem _ (List.mem_append_left _ (List.mem_append_right _ h))) hown hK hw.1 0 rfl rfl 0 (by decide) (hts (.fieldLink RX10 13 "EggThrones" "text" "LEggThrones$Text;") (List.mem_of_getElem? (i := 2) rfl)) (fun _ h9 => h9) rfl dX10_feed_26 ?_
      obtain ⟨r29, h29, hf⟩ := bd_s hf
      replace hf := bt_s hf
      refine gVi (As := []) (rest := []) C hw (tX9_length h29) (cwV 0 hts gX10_feed_X9_length rfl rfl rfl (by decide +kernel) ⟨Nat.le_of_ble_eq_true rfl, Nat.le_of_ble_eq_true rfl⟩) 9 7 rfl rfl rfl hl.1 rfl (Nat.le_of_ble_eq_true rfl) dX10_feed_29 (fun H locs hw => ?_)
      refine lv_goto (tgt := 37) hx hb dX10_feed_32 (by decide) ?_
      cases hf
      exact hret H locs ls 37 dX10_feed_37 hw
  · rw [if_pos c8] at hf
    refine zv_ldc hx hb (-1000000002) (by decide +kernel) hown (hts (.constant RX10 95 (-1000000002)) (List.mem_of_getElem? (i := 1) rfl)) dX10_feed_11 ?_
    cases hf
    exact hret H locs ls 13 dX10_feed_13 hw
set_option maxHeartbeats 4000000 in
set_option maxRecDepth 100000 in
theorem tX10_feed {l : Launch} {D : va_G} {A : Nat → Prop} {cI cZ : ClassId} {q : Nat → Nat} {σ : St} {x1 : Int} {r : Int} {τ : St} (hf : pX10_feed σ x1 = some (r, τ)) : Met l yX10_feed wsX10_feed rmX10_feed (va_Pc [.ref (q 0), .int (zI x1)] (CX D (TY cI cZ) A (wE q cI cZ σ))) (QI D (TY cI cZ) A (wE q cI cZ τ) (zI r)) 0 0 A := by
  refine opn (cc := cX10_feed) (maxL := 2) (ret := (some .int)) (by decide) rfl (Nat.le_of_ble_eq_true rfl) (fun p e s m below meth c C ls hw hl => ?_)
  have hl : lv_has ls 2 [(0, .ref (q 0)), (1, .int (zI x1))] := hl
  rw [pX10_feed] at hf
  exact wX10_feed_0 C (rtI C) σ x1 _ _ ls hw (lv_sub hl [0, 1] rfl) hf
abbrev rmX11_in : Room := { frames := 0, cells := 0, slots := 0, locals := 0 }
set_option maxHeartbeats 4000000 in
set_option maxRecDepth 100000 in
theorem wX11_in_0 {p : Program} {l : Launch} {e : Env} {s : State} {m : MethodId} {args : Array Value} {below : List Frame} {meth : Method} {c : Code} {D : va_G} {A : Nat → Prop} {w : va_W} {cI cZ : ClassId} {Q : State → Prop} {r : Int} (C : Cx p s m args meth c D (TY cI cZ) cX11_in (some .boolean) 6 wsX11_in RX11) (hret : RtZ p l e rmX11_in s m args below meth c D A cX11_in Q (w) (zI r)) :
    ∀ (y0 : Int) (y2 : Int) (y4 : Int) (H : Heap) (locs : List Loc) (ls : Array Slot), Wd D A s (w) H locs → lv_has ls 6 [(0, .long (zL y0)), (2, .long (zL y2)), (4, .long (zL y4))] → pX11_in_0 y0 y2 y4 = some r → W p l e rmX11_in s m args below meth c H locs 0 0 Q (F0 m 0 ls []) := by
  obtain ⟨hx, hb, hr, hml, hown, hts, hlk, hK, hN⟩ := id C
  intro y0 y2 y4 H locs ls hw hl hf
  rw [pX11_in_0] at hf
  refine lv_lload_n hx hb dX11_in_0 rfl (lv_at hl 0 rfl) ?_
  refine lv_lload_n hx hb dX11_in_1 rfl (lv_at hl 1 rfl) ?_
  obtain ⟨hg2, hf⟩ := gd_s hf
  refine zv_lcmp hx hb hg2 dX11_in_2 ?_
  obtain ⟨hg3, hf⟩ := gd_s hf
  refine zv_if_lt (tgt := 17) hx hb hg3 dX11_in_3 (by decide) (fun (c3 : (zCmp y0 y2) < 0) => ?_) (fun (c3 : ¬ ((zCmp y0 y2) < 0)) => ?_)
  · rw [if_pos c3] at hf
    refine lv_iconst (v := zI 0) hx hb dX11_in_17 rfl ?_
    cases hf
    exact hret H locs ls 18 dX11_in_18 (by decide +kernel) hw
  · rw [if_neg c3] at hf
    refine lv_lload_n hx hb dX11_in_6 rfl (lv_at hl 0 rfl) ?_
    refine lv_lload hx hb dX11_in_7 (lv_at hl 2 rfl) ?_
    obtain ⟨hg9, hf⟩ := gd_s hf
    refine zv_lcmp hx hb hg9 dX11_in_9 ?_
    obtain ⟨hg10, hf⟩ := gd_s hf
    refine zv_if_gt (tgt := 17) hx hb hg10 dX11_in_10 (by decide) (fun (c10 : 0 < (zCmp y0 y4)) => ?_) (fun (c10 : ¬ (0 < (zCmp y0 y4))) => ?_)
    · rw [if_pos c10] at hf
      refine lv_iconst (v := zI 0) hx hb dX11_in_17 rfl ?_
      cases hf
      exact hret H locs ls 18 dX11_in_18 (by decide +kernel) hw
    · rw [if_neg c10] at hf
      refine lv_iconst (v := zI 1) hx hb dX11_in_13 rfl ?_
      refine lv_goto (tgt := 18) hx hb dX11_in_14 (by decide) ?_
      cases hf
      exact hret H locs ls 18 dX11_in_18 (by decide +kernel) hw
set_option maxHeartbeats 4000000 in
set_option maxRecDepth 100000 in
theorem tX11_in {l : Launch} {D : va_G} {A : Nat → Prop} {cI cZ : ClassId} {w : va_W} {y0 : Int} {y2 : Int} {y4 : Int} {r : Int} (hf : pX11_in y0 y2 y4 = some r) : Met l yX11_in wsX11_in rmX11_in (va_Pc [.long (zL y0), .long (zL y2), .long (zL y4)] (CX D (TY cI cZ) A (w))) (QI D (TY cI cZ) A (w) (zI r)) 0 0 A := by
  refine opn (cc := cX11_in) (maxL := 6) (ret := (some .boolean)) (by decide) rfl (Nat.le_of_ble_eq_true rfl) (fun p e s m below meth c C ls hw hl => ?_)
  have hl : lv_has ls 6 [(0, .long (zL y0)), (2, .long (zL y2)), (4, .long (zL y4))] := hl
  rw [pX11_in] at hf
  exact wX11_in_0 C (rtZ C) y0 y2 y4 _ _ ls hw (lv_sub hl [0, 1, 2] rfl) hf
abbrev rmX11_feed : Room := { frames := 1, cells := 0, slots := 0, locals := 25 }
set_option maxHeartbeats 4000000 in
set_option maxRecDepth 100000 in
theorem wX11_feed_0 {p : Program} {l : Launch} {e : Env} {s : State} {m : MethodId} {args : Array Value} {below : List Frame} {meth : Method} {c : Code} {D : va_G} {A : Nat → Prop} {q : Nat → Nat} {cI cZ : ClassId} {Q : State → Prop} {r : Int} {τ : St} (C : Cx p s m args meth c D (TY cI cZ) cX11_feed (some .int) 2 wsX11_feed RX11) (hret : RtI p l e rmX11_feed s m args below meth c D A cX11_feed Q (wM q cI cZ τ) (zI r)) :
    ∀ (σ : St) (x1 : Int) (H : Heap) (locs : List Loc) (ls : Array Slot), Wd D A s (wM q cI cZ σ) H locs → lv_has ls 2 [(0, .ref (q 0)), (1, .int (zI x1))] → pX11_feed_0 σ x1 = some (r, τ) → W p l e rmX11_feed s m args below meth c H locs 0 0 Q (F0 m 0 ls []) := by
  obtain ⟨hx, hb, hr, hml, hown, hts, hlk, hK, hN⟩ := id C
  intro σ x1 H locs ls hw hl hf
  rw [pX11_feed_0] at hf
  refine lv_iload_n hx hb dX11_feed_0 rfl (lv_at hl 1 rfl) ?_
  obtain ⟨hz1, hf⟩ := gd_s hf
  refine zv_i2l hx hb hz1 dX11_feed_1 ?_
  refine lv_lconst (v := zL 0) hx hb dX11_feed_2 (by decide +kernel) ?_
  refine zv_ldc2 hx hb 255 (by decide +kernel) hown (hts (.constantLong RX11 103 (255)) (List.mem_of_getElem? (i := 1) rfl)) dX11_feed_3 ?_
  obtain ⟨r6, h6, hf⟩ := bd_s hf
  replace hf := bt_s hf
  refine gSi (As := [.long (zL x1), .long (zL 0), .long (zL 255)]) (rest := []) C hw (tX11_in h6) (va_cwS 3 hts gX11_feed_X11_in rfl rfl rfl (by decide +kernel) ⟨Nat.le_of_ble_eq_true rfl, Nat.le_of_ble_eq_true rfl⟩) rfl hl.1 rfl (Nat.le_of_ble_eq_true rfl) dX11_feed_6 (fun H locs hw => ?_)
  obtain ⟨hg9, hf⟩ := gd_s hf
  refine zv_if_ne (tgt := 15) hx hb hg9 dX11_feed_9 (by decide) (fun (c9 : ¬ (r6 = 0)) => ?_) (fun (c9 : r6 = 0) => ?_)
  · rw [if_neg c9] at hf
    refine lv_aload_n hx hb dX11_feed_15 rfl (lv_at hl 0 rfl) ?_
    refine va_get (D := D) (ci := 11) (v := .int (zI (σ.1 5))) (C := RX11) (T := TX11) (N := 40) hx hb hts (fun _ h => List.mem_cons_of_mem _ (List.mem_append_right _ h)) hown hK hw.1 0 rfl rfl 12 (by decide) (hts (.fieldLink RX11 106 "EggThronesModel" "texted" "I") (List.mem_of_getElem? (i := 3) rfl)) (fun _ h9 => h9) rfl dX11_feed_16 ?_
    refine lv_sipush (v := zI 240) hx hb dX11_feed_19 (by decide +kernel) ?_
    obtain ⟨hg22, hf⟩ := gd_s hf
    refine zv_icmp_ne (tgt := 28) hx hb ⟨hg22, by decide⟩ dX11_feed_22 (by decide) (fun (c22 : ¬ ((σ.1 5) = 240)) => ?_) (fun (c22 : (σ.1 5) = 240) => ?_)
    · rw [if_neg c22] at hf
      refine lv_aload_n hx hb dX11_feed_28 rfl (lv_at hl 0 rfl) ?_
      refine va_get (D := D) (ci := 11) (v := .ref (q 7)) (C := RX11) (T := TX11) (N := 40) hx hb hts (fun _ h => List.mem_cons_of_mem _ (List.mem_append_right _ h)) hown hK hw.1 0 rfl rfl 11 (by decide) (hts (.fieldLink RX11 28 "EggThronesModel" "text" "[I") (List.mem_of_getElem? (i := 5) rfl)) (fun _ h9 => h9) rfl dX11_feed_29 ?_
      refine lv_aload_n hx hb dX11_feed_32 rfl (lv_at hl 0 rfl) ?_
      refine va_get (D := D) (ci := 11) (v := .int (zI (σ.1 5))) (C := RX11) (T := TX11) (N := 40) hx hb hts (fun _ h => List.mem_cons_of_mem _ (List.mem_append_right _ h)) hown hK hw.1 0 rfl rfl 12 (by decide) (hts (.fieldLink RX11 106 "EggThronesModel" "texted" "I") (List.mem_of_getElem? (i := 3) rfl)) (fun _ h9 => h9) rfl dX11_feed_33 ?_
      refine lv_iload_n hx hb dX11_feed_36 rfl (lv_at hl 1 rfl) ?_
      obtain ⟨hi37, hf⟩ := gd_s hf
      refine zv_iast (D := D) hx hb hK hw.1 hw.2.1 hw.2.2 7 0 rfl rfl hi37 (by decide) dX11_feed_37 (fun H locs hP hD hS => ?_)
      have hw : Wd D A s (wM q cI cZ (sA σ 6 (va_up (σ.2 6) (Int.toNat (σ.1 5)) x1))) H locs := wdaM_6 hP hD hS
      obtain ⟨σ37, e37, hf⟩ := nm_s hf
      replace hf := bt_s hf
      rw [← e37] at hw
      refine lv_aload_n hx hb dX11_feed_38 rfl (lv_at hl 0 rfl) ?_
      refine lv_dup hx hb dX11_feed_39 rfl ?_
      refine va_get (D := D) (ci := 11) (v := .int (zI (σ37.1 5))) (C := RX11) (T := TX11) (N := 40) hx hb hts (fun _ h => List.mem_cons_of_mem _ (List.mem_append_right _ h)) hown hK hw.1 0 rfl rfl 12 (by decide) (hts (.fieldLink RX11 106 "EggThronesModel" "texted" "I") (List.mem_of_getElem? (i := 3) rfl)) (fun _ h9 => h9) rfl dX11_feed_40 ?_
      refine lv_iconst (v := zI 1) hx hb dX11_feed_43 rfl ?_
      refine zv_iadd hx hb dX11_feed_44 ?_
      refine va_put (D := D) (ci := 11) (v := .int (zI ((σ37.1 5) + 1))) (ty := .int) (C := RX11) (T := TX11) (N := 40) hx hb hts (fun _ h => List.mem_cons_of_mem _ (List.mem_append_right _ h)) tyX11 tyX11_ok nmX11 hown hK hw.1 hw.2.1 hw.2.2 0 rfl rfl 12 (by decide) (hts (.fieldLink RX11 106 "EggThronesModel" "texted" "I") (List.mem_of_getElem? (i := 3) rfl)) (fun _ h9 => h9) rfl (by decide +kernel) rfl rfl (Nat.le_of_ble_eq_true rfl) dX11_feed_45 (fun H locs hP hD hS => ?_)
      have hw : Wd D A s (wM q cI cZ (sI σ37 5 ((σ37.1 5) + 1))) H locs := wdiM_5 hP hD hS
      obtain ⟨σ45, e45, hf⟩ := nm_s hf
      replace hf := bt_s hf
      rw [← e45] at hw
      refine lv_aload_n hx hb dX11_feed_48 rfl (lv_at hl 0 rfl) ?_
      refine va_get (D := D) (ci := 11) (v := .int (zI (σ45.1 5))) (C := RX11) (T := TX11) (N := 40) hx hb hts (fun _ h => List.mem_cons_of_mem _ (List.mem_append_right _ h)) hown hK hw.1 0 rfl rfl 12 (by decide) (hts (.fieldLink RX11 106 "EggThronesModel" "texted" "I") (List.mem_of_getElem? (i := 3) rfl)) (fun _ h9 => h9) rfl dX11_feed_49 ?_
      cases hf
      exact hret H locs ls 52 dX11_feed_52 hw
    · rw [if_pos c22] at hf
      refine zv_ldc hx hb (-1000000004) (by decide +kernel) hown (hts (.constant RX11 109 (-1000000004)) (List.mem_of_getElem? (i := 4) rfl)) dX11_feed_25 ?_
      cases hf
      exact hret H locs ls 27 dX11_feed_27 hw
  · rw [if_pos c9] at hf
    refine zv_ldc hx hb (-1000000002) (by decide +kernel) hown (hts (.constant RX11 105 (-1000000002)) (List.mem_of_getElem? (i := 2) rfl)) dX11_feed_12 ?_
    cases hf
    exact hret H locs ls 14 dX11_feed_14 hw
set_option maxHeartbeats 4000000 in
set_option maxRecDepth 100000 in
theorem tX11_feed {l : Launch} {D : va_G} {A : Nat → Prop} {cI cZ : ClassId} {q : Nat → Nat} {σ : St} {x1 : Int} {r : Int} {τ : St} (hf : pX11_feed σ x1 = some (r, τ)) : Met l yX11_feed wsX11_feed rmX11_feed (va_Pc [.ref (q 0), .int (zI x1)] (CX D (TY cI cZ) A (wM q cI cZ σ))) (QI D (TY cI cZ) A (wM q cI cZ τ) (zI r)) 0 0 A := by
  refine opn (cc := cX11_feed) (maxL := 2) (ret := (some .int)) (by decide) rfl (Nat.le_of_ble_eq_true rfl) (fun p e s m below meth c C ls hw hl => ?_)
  have hl : lv_has ls 2 [(0, .ref (q 0)), (1, .int (zI x1))] := hl
  rw [pX11_feed] at hf
  exact wX11_feed_0 C (rtI C) σ x1 _ _ ls hw (lv_sub hl [0, 1] rfl) hf
abbrev rmX9_letterAt : Room := { frames := 0, cells := 0, slots := 0, locals := 0 }
set_option maxHeartbeats 4000000 in
set_option maxRecDepth 100000 in
theorem wX9_letterAt_0 {p : Program} {l : Launch} {e : Env} {s : State} {m : MethodId} {args : Array Value} {below : List Frame} {meth : Method} {c : Code} {D : va_G} {A : Nat → Prop} {q : Nat → Nat} {cI cZ : ClassId} {Q : State → Prop} {σ : St} {r : Int} (C : Cx p s m args meth c D (TY cI cZ) cX9_letterAt (some .int) 2 wsX9_letterAt RX9) (hret : RtI p l e rmX9_letterAt s m args below meth c D A cX9_letterAt Q (wE q cI cZ σ) (zI r)) :
    ∀ (x1 : Int) (H : Heap) (locs : List Loc) (ls : Array Slot), Wd D A s (wE q cI cZ σ) H locs → lv_has ls 2 [(0, .ref (q 7)), (1, .int (zI x1))] → pX9_letterAt_0 σ x1 = some r → W p l e rmX9_letterAt s m args below meth c H locs 0 0 Q (F0 m 0 ls []) := by
  obtain ⟨hx, hb, hr, hml, hown, hts, hlk, hK, hN⟩ := id C
  intro x1 H locs ls hw hl hf
  rw [pX9_letterAt_0] at hf
  refine lv_iload_n hx hb dX9_letterAt_0 rfl (lv_at hl 1 rfl) ?_
  obtain ⟨hg1, hf⟩ := gd_s hf
  refine zv_if_lt (tgt := 28) hx hb hg1 dX9_letterAt_1 (by decide) (fun (c1 : x1 < 0) => ?_) (fun (c1 : ¬ (x1 < 0)) => ?_)
  · rw [if_pos c1] at hf
    refine lv_iconst (v := zI (-1)) hx hb dX9_letterAt_28 rfl ?_
    cases hf
    exact hret H locs ls 29 dX9_letterAt_29 hw
  · rw [if_neg c1] at hf
    refine lv_iload_n hx hb dX9_letterAt_4 rfl (lv_at hl 1 rfl) ?_
    refine lv_aload_n hx hb dX9_letterAt_5 rfl (lv_at hl 0 rfl) ?_
    refine va_get (D := D) (ci := 9) (v := .int (zI (σ.1 7))) (C := RX9) (T := TX9) (N := 5) hx hb hts (fun _ h => List.mem_cons_of_mem _ (List.mem_append_right _ h)) hown hK hw.1 7 rfl rfl 1 (by decide) (hts (.fieldLink RX9 15 "EggThrones$Text" "count" "I") (List.mem_of_getElem? (i := 1) rfl)) (fun _ h9 => h9) rfl dX9_letterAt_6 ?_
    obtain ⟨hg9, hf⟩ := gd_s hf
    refine zv_icmp_ge (tgt := 28) hx hb hg9 dX9_letterAt_9 (by decide) (fun (c9 : (σ.1 7) ≤ x1) => ?_) (fun (c9 : ¬ ((σ.1 7) ≤ x1)) => ?_)
    · rw [if_pos c9] at hf
      refine lv_iconst (v := zI (-1)) hx hb dX9_letterAt_28 rfl ?_
      cases hf
      exact hret H locs ls 29 dX9_letterAt_29 hw
    · rw [if_neg c9] at hf
      refine lv_iload_n hx hb dX9_letterAt_12 rfl (lv_at hl 1 rfl) ?_
      refine lv_sipush (v := zI 240) hx hb dX9_letterAt_13 (by decide +kernel) ?_
      obtain ⟨hg16, hf⟩ := gd_s hf
      refine zv_icmp_ge (tgt := 28) hx hb ⟨hg16, by decide⟩ dX9_letterAt_16 (by decide) (fun (c16 : 240 ≤ x1) => ?_) (fun (c16 : ¬ (240 ≤ x1)) => ?_)
      · rw [if_pos c16] at hf
        refine lv_iconst (v := zI (-1)) hx hb dX9_letterAt_28 rfl ?_
        cases hf
        exact hret H locs ls 29 dX9_letterAt_29 hw
      · rw [if_neg c16] at hf
        refine lv_aload_n hx hb dX9_letterAt_19 rfl (lv_at hl 0 rfl) ?_
        refine va_get (D := D) (ci := 9) (v := .ref (q 8)) (C := RX9) (T := TX9) (N := 5) hx hb hts (fun _ h => List.mem_cons_of_mem _ (List.mem_append_right _ h)) hown hK hw.1 7 rfl rfl 0 (by decide) (hts (.fieldLink RX9 9 "EggThrones$Text" "letters" "[I") (List.mem_of_getElem? (i := 2) rfl)) (fun _ h9 => h9) rfl dX9_letterAt_20 ?_
        refine lv_iload_n hx hb dX9_letterAt_23 rfl (lv_at hl 1 rfl) ?_
        obtain ⟨hi24, hf⟩ := gd_s hf
        refine zv_iald (D := D) hx hb hK hw.1 8 0 rfl rfl hi24 (by decide) dX9_letterAt_24 ?_
        refine lv_goto (tgt := 29) hx hb dX9_letterAt_25 (by decide) ?_
        cases hf
        exact hret H locs ls 29 dX9_letterAt_29 hw
set_option maxHeartbeats 4000000 in
set_option maxRecDepth 100000 in
theorem tX9_letterAt {l : Launch} {D : va_G} {A : Nat → Prop} {cI cZ : ClassId} {q : Nat → Nat} {σ : St} {x1 : Int} {r : Int} (hf : pX9_letterAt σ x1 = some r) : Met l yX9_letterAt wsX9_letterAt rmX9_letterAt (va_Pc [.ref (q 7), .int (zI x1)] (CX D (TY cI cZ) A (wE q cI cZ σ))) (QI D (TY cI cZ) A (wE q cI cZ σ) (zI r)) 0 0 A := by
  refine opn (cc := cX9_letterAt) (maxL := 2) (ret := (some .int)) (by decide) rfl (Nat.le_of_ble_eq_true rfl) (fun p e s m below meth c C ls hw hl => ?_)
  have hl : lv_has ls 2 [(0, .ref (q 7)), (1, .int (zI x1))] := hl
  rw [pX9_letterAt] at hf
  exact wX9_letterAt_0 C (rtI C) x1 _ _ ls hw (lv_sub hl [0, 1] rfl) hf
abbrev rmX9_skipBlanks : Room := { frames := 1, cells := 0, slots := 0, locals := 21 }
set_option maxHeartbeats 4000000 in
set_option maxRecDepth 100000 in
theorem wX9_skipBlanks_37 {p : Program} {l : Launch} {e : Env} {s : State} {m : MethodId} {args : Array Value} {below : List Frame} {meth : Method} {c : Code} {D : va_G} {A : Nat → Prop} {q : Nat → Nat} {cI cZ : ClassId} {Q : State → Prop} {r : Int} {τ : St} (C : Cx p s m args meth c D (TY cI cZ) cX9_skipBlanks (some .int) 1 wsX9_skipBlanks RX9) (hret : RtI p l e rmX9_skipBlanks s m args below meth c D A cX9_skipBlanks Q (wE q cI cZ τ) (zI r)) :
    ∀ (σ : St) (H : Heap) (locs : List Loc) (ls : Array Slot), Wd D A s (wE q cI cZ σ) H locs → lv_has ls 1 [(0, .ref (q 7))] → pX9_skipBlanks_37 σ = some (r, τ) → W p l e rmX9_skipBlanks s m args below meth c H locs 0 0 Q (F0 m 37 ls []) := by
  obtain ⟨hx, hb, hr, hml, hown, hts, hlk, hK, hN⟩ := id C
  intro σ H locs ls hw hl hf
  rw [pX9_skipBlanks_37] at hf
  refine lv_aload_n hx hb dX9_skipBlanks_37 rfl (lv_at hl 0 rfl) ?_
  refine lv_aload_n hx hb dX9_skipBlanks_38 rfl (lv_at hl 0 rfl) ?_
  refine va_get (D := D) (ci := 9) (v := .int (zI (σ.1 8))) (C := RX9) (T := TX9) (N := 5) hx hb hts (fun _ h => List.mem_cons_of_mem _ (List.mem_append_right _ h)) hown hK hw.1 7 rfl rfl 2 (by decide) (hts (.fieldLink RX9 19 "EggThrones$Text" "at" "I") (List.mem_of_getElem? (i := 1) rfl)) (fun _ h9 => h9) rfl dX9_skipBlanks_39 ?_
  obtain ⟨r42, h42, hf⟩ := bd_s hf
  replace hf := bt_s hf
  refine gVi (As := [.int (zI (σ.1 8))]) (rest := []) C hw (tX9_letterAt h42) (cwV 1 hts gX9_skipBlanks_X9_letterAt rfl rfl rfl (by decide +kernel) ⟨Nat.le_of_ble_eq_true rfl, Nat.le_of_ble_eq_true rfl⟩) 9 7 rfl rfl rfl hl.1 rfl (Nat.le_of_ble_eq_true rfl) dX9_skipBlanks_42 (fun H locs hw => ?_)
  cases hf
  exact hret H locs ls 45 dX9_skipBlanks_45 hw
set_option maxHeartbeats 4000000 in
set_option maxRecDepth 100000 in
theorem wX9_skipBlanks_0 {p : Program} {l : Launch} {e : Env} {s : State} {m : MethodId} {args : Array Value} {below : List Frame} {meth : Method} {c : Code} {D : va_G} {A : Nat → Prop} {q : Nat → Nat} {cI cZ : ClassId} {Q : State → Prop} {r : Int} {τ : St} (C : Cx p s m args meth c D (TY cI cZ) cX9_skipBlanks (some .int) 1 wsX9_skipBlanks RX9) (hret : RtI p l e rmX9_skipBlanks s m args below meth c D A cX9_skipBlanks Q (wE q cI cZ τ) (zI r)) :
    ∀ (n : Nat) (σ : St) (H : Heap) (locs : List Loc) (ls : Array Slot), Wd D A s (wE q cI cZ σ) H locs → lv_has ls 1 [(0, .ref (q 7))] → pX9_skipBlanks_0 n σ = some (r, τ) → W p l e rmX9_skipBlanks s m args below meth c H locs 0 0 Q (F0 m 0 ls []) := by
  obtain ⟨hx, hb, hr, hml, hown, hts, hlk, hK, hN⟩ := id C
  intro n
  induction n with
  | zero =>
    intro σ H locs ls hw hl hf
    exact absurd (show (none : Option (Int × St)) = some (r, τ) from hf) (by simp)
  | succ n ih =>
    intro σ H locs ls hw hl hf
    rw [pX9_skipBlanks_0] at hf
    refine lv_aload_n hx hb dX9_skipBlanks_0 rfl (lv_at hl 0 rfl) ?_
    refine va_get (D := D) (ci := 9) (v := .int (zI (σ.1 8))) (C := RX9) (T := TX9) (N := 5) hx hb hts (fun _ h => List.mem_cons_of_mem _ (List.mem_append_right _ h)) hown hK hw.1 7 rfl rfl 2 (by decide) (hts (.fieldLink RX9 19 "EggThrones$Text" "at" "I") (List.mem_of_getElem? (i := 1) rfl)) (fun _ h9 => h9) rfl dX9_skipBlanks_1 ?_
    refine lv_aload_n hx hb dX9_skipBlanks_4 rfl (lv_at hl 0 rfl) ?_
    refine va_get (D := D) (ci := 9) (v := .int (zI (σ.1 7))) (C := RX9) (T := TX9) (N := 5) hx hb hts (fun _ h => List.mem_cons_of_mem _ (List.mem_append_right _ h)) hown hK hw.1 7 rfl rfl 1 (by decide) (hts (.fieldLink RX9 15 "EggThrones$Text" "count" "I") (List.mem_of_getElem? (i := 2) rfl)) (fun _ h9 => h9) rfl dX9_skipBlanks_5 ?_
    obtain ⟨hg8, hf⟩ := gd_s hf
    refine zv_icmp_ge (tgt := 37) hx hb hg8 dX9_skipBlanks_8 (by decide) (fun (c8 : (σ.1 7) ≤ (σ.1 8)) => ?_) (fun (c8 : ¬ ((σ.1 7) ≤ (σ.1 8))) => ?_)
    · rw [if_pos c8] at hf
      exact wX9_skipBlanks_37 C hret σ H locs ls hw (lv_sub hl [0] rfl) hf
    · rw [if_neg c8] at hf
      refine lv_aload_n hx hb dX9_skipBlanks_11 rfl (lv_at hl 0 rfl) ?_
      refine lv_aload_n hx hb dX9_skipBlanks_12 rfl (lv_at hl 0 rfl) ?_
      refine va_get (D := D) (ci := 9) (v := .int (zI (σ.1 8))) (C := RX9) (T := TX9) (N := 5) hx hb hts (fun _ h => List.mem_cons_of_mem _ (List.mem_append_right _ h)) hown hK hw.1 7 rfl rfl 2 (by decide) (hts (.fieldLink RX9 19 "EggThrones$Text" "at" "I") (List.mem_of_getElem? (i := 1) rfl)) (fun _ h9 => h9) rfl dX9_skipBlanks_13 ?_
      obtain ⟨r16, h16, hf⟩ := bd_s hf
      replace hf := bt_s hf
      refine gVi (As := [.int (zI (σ.1 8))]) (rest := []) C hw (tX9_letterAt h16) (cwV 1 hts gX9_skipBlanks_X9_letterAt rfl rfl rfl (by decide +kernel) ⟨Nat.le_of_ble_eq_true rfl, Nat.le_of_ble_eq_true rfl⟩) 9 7 rfl rfl rfl hl.1 rfl (Nat.le_of_ble_eq_true rfl) dX9_skipBlanks_16 (fun H locs hw => ?_)
      refine lv_bipush (v := zI 32) hx hb dX9_skipBlanks_19 (by decide +kernel) ?_
      obtain ⟨hg21, hf⟩ := gd_s hf
      refine zv_icmp_ne (tgt := 37) hx hb ⟨hg21, by decide⟩ dX9_skipBlanks_21 (by decide) (fun (c21 : ¬ (r16 = 32)) => ?_) (fun (c21 : r16 = 32) => ?_)
      · rw [if_neg c21] at hf
        exact wX9_skipBlanks_37 C hret σ H locs ls hw (lv_sub hl [0] rfl) hf
      · rw [if_pos c21] at hf
        refine lv_aload_n hx hb dX9_skipBlanks_24 rfl (lv_at hl 0 rfl) ?_
        refine lv_dup hx hb dX9_skipBlanks_25 rfl ?_
        refine va_get (D := D) (ci := 9) (v := .int (zI (σ.1 8))) (C := RX9) (T := TX9) (N := 5) hx hb hts (fun _ h => List.mem_cons_of_mem _ (List.mem_append_right _ h)) hown hK hw.1 7 rfl rfl 2 (by decide) (hts (.fieldLink RX9 19 "EggThrones$Text" "at" "I") (List.mem_of_getElem? (i := 1) rfl)) (fun _ h9 => h9) rfl dX9_skipBlanks_26 ?_
        refine lv_iconst (v := zI 1) hx hb dX9_skipBlanks_29 rfl ?_
        refine zv_iadd hx hb dX9_skipBlanks_30 ?_
        refine va_put (D := D) (ci := 9) (v := .int (zI ((σ.1 8) + 1))) (ty := .int) (C := RX9) (T := TX9) (N := 5) hx hb hts (fun _ h => List.mem_cons_of_mem _ (List.mem_append_right _ h)) tyX9 tyX9_ok nmX9 hown hK hw.1 hw.2.1 hw.2.2 7 rfl rfl 2 (by decide) (hts (.fieldLink RX9 19 "EggThrones$Text" "at" "I") (List.mem_of_getElem? (i := 1) rfl)) (fun _ h9 => h9) rfl (by decide +kernel) rfl rfl (Nat.le_of_ble_eq_true rfl) dX9_skipBlanks_31 (fun H locs hP hD hS => ?_)
        have hw : Wd D A s (wE q cI cZ (sI σ 8 ((σ.1 8) + 1))) H locs := wdiE_8 hP hD hS
        obtain ⟨σ31, e31, hf⟩ := nm_s hf
        replace hf := bt_s hf
        rw [← e31] at hw
        refine lv_goto (tgt := 0) hx hb dX9_skipBlanks_34 (by decide) ?_
        exact ih σ31 H locs ls hw (lv_sub hl [0] rfl) hf
set_option maxHeartbeats 4000000 in
set_option maxRecDepth 100000 in
theorem tX9_skipBlanks {l : Launch} {D : va_G} {A : Nat → Prop} {cI cZ : ClassId} {q : Nat → Nat} {σ : St} {r : Int} {τ : St} (hf : pX9_skipBlanks σ = some (r, τ)) : Met l yX9_skipBlanks wsX9_skipBlanks rmX9_skipBlanks (va_Pc [.ref (q 7)] (CX D (TY cI cZ) A (wE q cI cZ σ))) (QI D (TY cI cZ) A (wE q cI cZ τ) (zI r)) 0 0 A := by
  refine opn (cc := cX9_skipBlanks) (maxL := 1) (ret := (some .int)) (by decide) rfl (Nat.le_of_ble_eq_true rfl) (fun p e s m below meth c C ls hw hl => ?_)
  have hl : lv_has ls 1 [(0, .ref (q 7))] := hl
  rw [pX9_skipBlanks] at hf
  exact wX9_skipBlanks_0 C (rtI C) FU σ _ _ ls hw (lv_sub hl [0] rfl) hf
abbrev rmX9_find : Room := { frames := 0, cells := 0, slots := 0, locals := 0 }
set_option maxHeartbeats 4000000 in
set_option maxRecDepth 100000 in
theorem wX9_find_0 {p : Program} {l : Launch} {e : Env} {s : State} {m : MethodId} {args : Array Value} {below : List Frame} {meth : Method} {c : Code} {D : va_G} {A : Nat → Prop} {q : Nat → Nat} {cI cZ : ClassId} {Q : State → Prop} {τ : St} (C : Cx p s m args meth c D (TY cI cZ) cX9_find none 3 wsX9_find RX9) (hret : RtV p l e rmX9_find s m args below meth c D A cX9_find Q (wE q cI cZ τ)) :
    ∀ (σ : St) (x1 : Int) (x2 : Int) (H : Heap) (locs : List Loc) (ls : Array Slot), Wd D A s (wE q cI cZ σ) H locs → lv_has ls 3 [(0, .ref (q 7)), (1, .int (zI x1)), (2, .int (zI x2))] → pX9_find_0 σ x1 x2 = some τ → W p l e rmX9_find s m args below meth c H locs 0 0 Q (F0 m 0 ls []) := by
  obtain ⟨hx, hb, hr, hml, hown, hts, hlk, hK, hN⟩ := id C
  intro σ x1 x2 H locs ls hw hl hf
  rw [pX9_find_0] at hf
  refine lv_aload_n hx hb dX9_find_0 rfl (lv_at hl 0 rfl) ?_
  refine lv_iload_n hx hb dX9_find_1 rfl (lv_at hl 1 rfl) ?_
  refine va_put (D := D) (ci := 9) (v := .int (zI x1)) (ty := .int) (C := RX9) (T := TX9) (N := 5) hx hb hts (fun _ h => List.mem_cons_of_mem _ (List.mem_append_right _ h)) tyX9 tyX9_ok nmX9 hown hK hw.1 hw.2.1 hw.2.2 7 rfl rfl 3 (by decide) (hts (.fieldLink RX9 22 "EggThrones$Text" "faultNumber" "I") (List.mem_of_getElem? (i := 1) rfl)) (fun _ h9 => h9) rfl (by decide +kernel) rfl rfl (Nat.le_of_ble_eq_true rfl) dX9_find_2 (fun H locs hP hD hS => ?_)
  have hw : Wd D A s (wE q cI cZ (sI σ 9 x1)) H locs := wdiE_9 hP hD hS
  obtain ⟨σ2, e2, hf⟩ := nm_s hf
  replace hf := bt_s hf
  rw [← e2] at hw
  refine lv_aload_n hx hb dX9_find_5 rfl (lv_at hl 0 rfl) ?_
  refine lv_iload_n hx hb dX9_find_6 rfl (lv_at hl 2 rfl) ?_
  refine va_put (D := D) (ci := 9) (v := .int (zI x2)) (ty := .int) (C := RX9) (T := TX9) (N := 5) hx hb hts (fun _ h => List.mem_cons_of_mem _ (List.mem_append_right _ h)) tyX9 tyX9_ok nmX9 hown hK hw.1 hw.2.1 hw.2.2 7 rfl rfl 4 (by decide) (hts (.fieldLink RX9 25 "EggThrones$Text" "faultAt" "I") (List.mem_of_getElem? (i := 2) rfl)) (fun _ h9 => h9) rfl (by decide +kernel) rfl rfl (Nat.le_of_ble_eq_true rfl) dX9_find_7 (fun H locs hP hD hS => ?_)
  have hw : Wd D A s (wE q cI cZ (sI σ2 10 x2)) H locs := wdiE_10 hP hD hS
  obtain ⟨σ7, e7, hf⟩ := nm_s hf
  replace hf := bt_s hf
  rw [← e7] at hw
  cases hf
  exact hret H locs ls 10 dX9_find_10 hw
set_option maxHeartbeats 4000000 in
set_option maxRecDepth 100000 in
theorem tX9_find {l : Launch} {D : va_G} {A : Nat → Prop} {cI cZ : ClassId} {q : Nat → Nat} {σ : St} {x1 : Int} {x2 : Int} {τ : St} (hf : pX9_find σ x1 x2 = some τ) : Met l yX9_find wsX9_find rmX9_find (va_Pc [.ref (q 7), .int (zI x1), .int (zI x2)] (CX D (TY cI cZ) A (wE q cI cZ σ))) (QV D (TY cI cZ) A (wE q cI cZ τ)) 0 0 A := by
  refine opn (cc := cX9_find) (maxL := 3) (ret := none) (by decide) rfl (Nat.le_of_ble_eq_true rfl) (fun p e s m below meth c C ls hw hl => ?_)
  have hl : lv_has ls 3 [(0, .ref (q 7)), (1, .int (zI x1)), (2, .int (zI x2))] := hl
  rw [pX9_find] at hf
  exact wX9_find_0 C (rtV C) σ x1 x2 _ _ ls hw (lv_sub hl [0, 1, 2] rfl) hf
abbrev rmX9_isFigure : Room := { frames := 0, cells := 0, slots := 0, locals := 0 }
set_option maxHeartbeats 4000000 in
set_option maxRecDepth 100000 in
theorem wX9_isFigure_0 {p : Program} {l : Launch} {e : Env} {s : State} {m : MethodId} {args : Array Value} {below : List Frame} {meth : Method} {c : Code} {D : va_G} {A : Nat → Prop} {w : va_W} {cI cZ : ClassId} {Q : State → Prop} {r : Int} (C : Cx p s m args meth c D (TY cI cZ) cX9_isFigure (some .boolean) 1 wsX9_isFigure RX9) (hret : RtZ p l e rmX9_isFigure s m args below meth c D A cX9_isFigure Q (w) (zI r)) :
    ∀ (x0 : Int) (H : Heap) (locs : List Loc) (ls : Array Slot), Wd D A s (w) H locs → lv_has ls 1 [(0, .int (zI x0))] → pX9_isFigure_0 x0 = some r → W p l e rmX9_isFigure s m args below meth c H locs 0 0 Q (F0 m 0 ls []) := by
  obtain ⟨hx, hb, hr, hml, hown, hts, hlk, hK, hN⟩ := id C
  intro x0 H locs ls hw hl hf
  rw [pX9_isFigure_0] at hf
  refine lv_iload_n hx hb dX9_isFigure_0 rfl (lv_at hl 0 rfl) ?_
  refine lv_bipush (v := zI 48) hx hb dX9_isFigure_1 (by decide +kernel) ?_
  obtain ⟨hg3, hf⟩ := gd_s hf
  refine zv_icmp_lt (tgt := 16) hx hb ⟨hg3, by decide⟩ dX9_isFigure_3 (by decide) (fun (c3 : x0 < 48) => ?_) (fun (c3 : ¬ (x0 < 48)) => ?_)
  · rw [if_pos c3] at hf
    refine lv_iconst (v := zI 0) hx hb dX9_isFigure_16 rfl ?_
    cases hf
    exact hret H locs ls 17 dX9_isFigure_17 (by decide +kernel) hw
  · rw [if_neg c3] at hf
    refine lv_iload_n hx hb dX9_isFigure_6 rfl (lv_at hl 0 rfl) ?_
    refine lv_bipush (v := zI 57) hx hb dX9_isFigure_7 (by decide +kernel) ?_
    obtain ⟨hg9, hf⟩ := gd_s hf
    refine zv_icmp_gt (tgt := 16) hx hb ⟨hg9, by decide⟩ dX9_isFigure_9 (by decide) (fun (c9 : 57 < x0) => ?_) (fun (c9 : ¬ (57 < x0)) => ?_)
    · rw [if_pos c9] at hf
      refine lv_iconst (v := zI 0) hx hb dX9_isFigure_16 rfl ?_
      cases hf
      exact hret H locs ls 17 dX9_isFigure_17 (by decide +kernel) hw
    · rw [if_neg c9] at hf
      refine lv_iconst (v := zI 1) hx hb dX9_isFigure_12 rfl ?_
      refine lv_goto (tgt := 17) hx hb dX9_isFigure_13 (by decide) ?_
      cases hf
      exact hret H locs ls 17 dX9_isFigure_17 (by decide +kernel) hw
set_option maxHeartbeats 4000000 in
set_option maxRecDepth 100000 in
theorem tX9_isFigure {l : Launch} {D : va_G} {A : Nat → Prop} {cI cZ : ClassId} {w : va_W} {x0 : Int} {r : Int} (hf : pX9_isFigure x0 = some r) : Met l yX9_isFigure wsX9_isFigure rmX9_isFigure (va_Pc [.int (zI x0)] (CX D (TY cI cZ) A (w))) (QI D (TY cI cZ) A (w) (zI r)) 0 0 A := by
  refine opn (cc := cX9_isFigure) (maxL := 1) (ret := (some .boolean)) (by decide) rfl (Nat.le_of_ble_eq_true rfl) (fun p e s m below meth c C ls hw hl => ?_)
  have hl : lv_has ls 1 [(0, .int (zI x0))] := hl
  rw [pX9_isFigure] at hf
  exact wX9_isFigure_0 C (rtZ C) x0 _ _ ls hw (lv_sub hl [0] rfl) hf
abbrev rmX9_readNumber : Room := { frames := 2, cells := 0, slots := 0, locals := 41 }
set_option maxHeartbeats 4000000 in
set_option maxRecDepth 100000 in
theorem wX9_readNumber_62 {p : Program} {l : Launch} {e : Env} {s : State} {m : MethodId} {args : Array Value} {below : List Frame} {meth : Method} {c : Code} {D : va_G} {A : Nat → Prop} {q : Nat → Nat} {cI cZ : ClassId} {Q : State → Prop} {r : Int} {τ : St} (C : Cx p s m args meth c D (TY cI cZ) cX9_readNumber (some .int) 7 wsX9_readNumber RX9) (hret : RtI p l e rmX9_readNumber s m args below meth c D A cX9_readNumber Q (wE q cI cZ τ) (zI r)) (k26 : St → Int → Int → Int → Int → Int → Int → Option (Int × St)) (hk26 : ∀ (σ : St) (x1 : Int) (x2 : Int) (x3 : Int) (x4 : Int) (x5 : Int) (x6 : Int) (H : Heap) (locs : List Loc) (ls : Array Slot), Wd D A s (wE q cI cZ σ) H locs → lv_has ls 7 [(0, .ref (q 7)), (1, .int (zI x1)), (2, .int (zI x2)), (3, .int (zI x3)), (4, .int (zI x4)), (5, .int (zI x5)), (6, .int (zI x6))] → k26 σ x1 x2 x3 x4 x5 x6 = some (r, τ) → W p l e rmX9_readNumber s m args below meth c H locs 0 0 Q (F0 m 26 ls [])) :
    ∀ (σ : St) (x1 : Int) (x2 : Int) (x4 : Int) (x5 : Int) (t0 : Int) (H : Heap) (locs : List Loc) (ls : Array Slot), Wd D A s (wE q cI cZ σ) H locs → lv_has ls 7 [(0, .ref (q 7)), (1, .int (zI x1)), (2, .int (zI x2)), (4, .int (zI x4)), (5, .int (zI x5))] → pX9_readNumber_62 k26 σ x1 x2 x4 x5 t0 = some (r, τ) → W p l e rmX9_readNumber s m args below meth c H locs 0 0 Q (F0 m 62 ls [.int (zI t0)]) := by
  obtain ⟨hx, hb, hr, hml, hown, hts, hlk, hK, hN⟩ := id C
  intro σ x1 x2 x4 x5 t0 H locs ls hw hl hf
  rw [pX9_readNumber_62] at hf
  refine lv_istore (lv' := [(6, .int (zI t0)), (0, .ref (q 7)), (1, .int (zI x1)), (2, .int (zI x2)), (4, .int (zI x4)), (5, .int (zI x5))]) hx hb dX9_readNumber_62 hl (by decide) rfl (fun ls hl => ?_)
  refine lv_iinc (v := zI (x5 + 1)) (lv' := [(5, .int (zI (x5 + 1))), (6, .int (zI t0)), (0, .ref (q 7)), (1, .int (zI x1)), (2, .int (zI x2)), (4, .int (zI x4))]) hx hb dX9_readNumber_64 hl (k := 5) rfl (zI_add _ _) (by decide) rfl (fun ls hl => ?_)
  refine lv_aload_n hx hb dX9_readNumber_67 rfl (lv_at hl 2 rfl) ?_
  refine lv_dup hx hb dX9_readNumber_68 rfl ?_
  refine va_get (D := D) (ci := 9) (v := .int (zI (σ.1 8))) (C := RX9) (T := TX9) (N := 5) hx hb hts (fun _ h => List.mem_cons_of_mem _ (List.mem_append_right _ h)) hown hK hw.1 7 rfl rfl 2 (by decide) (hts (.fieldLink RX9 19 "EggThrones$Text" "at" "I") (List.mem_of_getElem? (i := 2) rfl)) (fun _ h9 => h9) rfl dX9_readNumber_69 ?_
  refine lv_iconst (v := zI 1) hx hb dX9_readNumber_72 rfl ?_
  refine zv_iadd hx hb dX9_readNumber_73 ?_
  refine va_put (D := D) (ci := 9) (v := .int (zI ((σ.1 8) + 1))) (ty := .int) (C := RX9) (T := TX9) (N := 5) hx hb hts (fun _ h => List.mem_cons_of_mem _ (List.mem_append_right _ h)) tyX9 tyX9_ok nmX9 hown hK hw.1 hw.2.1 hw.2.2 7 rfl rfl 2 (by decide) (hts (.fieldLink RX9 19 "EggThrones$Text" "at" "I") (List.mem_of_getElem? (i := 2) rfl)) (fun _ h9 => h9) rfl (by decide +kernel) rfl rfl (Nat.le_of_ble_eq_true rfl) dX9_readNumber_74 (fun H locs hP hD hS => ?_)
  have hw : Wd D A s (wE q cI cZ (sI σ 8 ((σ.1 8) + 1))) H locs := wdiE_8 hP hD hS
  obtain ⟨σ74, e74, hf⟩ := nm_s hf
  replace hf := bt_s hf
  rw [← e74] at hw
  refine lv_aload_n hx hb dX9_readNumber_77 rfl (lv_at hl 2 rfl) ?_
  refine lv_aload_n hx hb dX9_readNumber_78 rfl (lv_at hl 2 rfl) ?_
  refine va_get (D := D) (ci := 9) (v := .int (zI (σ74.1 8))) (C := RX9) (T := TX9) (N := 5) hx hb hts (fun _ h => List.mem_cons_of_mem _ (List.mem_append_right _ h)) hown hK hw.1 7 rfl rfl 2 (by decide) (hts (.fieldLink RX9 19 "EggThrones$Text" "at" "I") (List.mem_of_getElem? (i := 2) rfl)) (fun _ h9 => h9) rfl dX9_readNumber_79 ?_
  obtain ⟨r82, h82, hf⟩ := bd_s hf
  replace hf := bt_s hf
  refine gVi (As := [.int (zI (σ74.1 8))]) (rest := []) C hw (tX9_letterAt h82) (cwV 1 hts gX9_readNumber_X9_letterAt rfl rfl rfl (by decide +kernel) ⟨Nat.le_of_ble_eq_true rfl, Nat.le_of_ble_eq_true rfl⟩) 9 7 rfl rfl rfl hl.1 rfl (Nat.le_of_ble_eq_true rfl) dX9_readNumber_82 (fun H locs hw => ?_)
  refine lv_istore_n (lv' := [(3, .int (zI r82)), (5, .int (zI (x5 + 1))), (6, .int (zI t0)), (0, .ref (q 7)), (1, .int (zI x1)), (2, .int (zI x2)), (4, .int (zI x4))]) hx hb dX9_readNumber_85 rfl hl (by decide) rfl (fun ls hl => ?_)
  refine lv_goto (tgt := 26) hx hb dX9_readNumber_86 (by decide) ?_
  exact hk26 σ74 x1 x2 r82 x4 (x5 + 1) t0 H locs ls hw (lv_sub hl [3, 4, 5, 0, 6, 1, 2] rfl) hf
set_option maxHeartbeats 4000000 in
set_option maxRecDepth 100000 in
theorem wX9_readNumber_120 {p : Program} {l : Launch} {e : Env} {s : State} {m : MethodId} {args : Array Value} {below : List Frame} {meth : Method} {c : Code} {D : va_G} {A : Nat → Prop} {q : Nat → Nat} {cI cZ : ClassId} {Q : State → Prop} {r : Int} {τ : St} (C : Cx p s m args meth c D (TY cI cZ) cX9_readNumber (some .int) 7 wsX9_readNumber RX9) (hret : RtI p l e rmX9_readNumber s m args below meth c D A cX9_readNumber Q (wE q cI cZ τ) (zI r)) :
    ∀ (σ : St) (x4 : Int) (x6 : Int) (H : Heap) (locs : List Loc) (ls : Array Slot), Wd D A s (wE q cI cZ σ) H locs → lv_has ls 7 [(0, .ref (q 7)), (4, .int (zI x4)), (6, .int (zI x6))] → pX9_readNumber_120 σ x4 x6 = some (r, τ) → W p l e rmX9_readNumber s m args below meth c H locs 0 0 Q (F0 m 120 ls []) := by
  obtain ⟨hx, hb, hr, hml, hown, hts, hlk, hK, hN⟩ := id C
  intro σ x4 x6 H locs ls hw hl hf
  rw [pX9_readNumber_120] at hf
  refine lv_aload_n hx hb dX9_readNumber_120 rfl (lv_at hl 0 rfl) ?_
  refine lv_iconst (v := zI 2) hx hb dX9_readNumber_121 rfl ?_
  refine lv_iload hx hb dX9_readNumber_122 (lv_at hl 1 rfl) ?_
  obtain ⟨σ124, h124, hf⟩ := bd_s hf
  replace hf := bt_s hf
  refine gVv (As := [.int (zI 2), .int (zI x4)]) (rest := []) C hw (tX9_find h124) (cwV 2 hts gX9_readNumber_X9_find rfl rfl rfl (by decide +kernel) ⟨Nat.le_of_ble_eq_true rfl, Nat.le_of_ble_eq_true rfl⟩) 9 7 rfl rfl rfl hl.1 rfl (Nat.le_of_ble_eq_true rfl) dX9_readNumber_124 (fun H locs hw => ?_)
  refine lv_iload hx hb dX9_readNumber_127 (lv_at hl 2 rfl) ?_
  cases hf
  exact hret H locs ls 129 dX9_readNumber_129 hw
set_option maxHeartbeats 4000000 in
set_option maxRecDepth 100000 in
theorem wX9_readNumber_89 {p : Program} {l : Launch} {e : Env} {s : State} {m : MethodId} {args : Array Value} {below : List Frame} {meth : Method} {c : Code} {D : va_G} {A : Nat → Prop} {q : Nat → Nat} {cI cZ : ClassId} {Q : State → Prop} {r : Int} {τ : St} (C : Cx p s m args meth c D (TY cI cZ) cX9_readNumber (some .int) 7 wsX9_readNumber RX9) (hret : RtI p l e rmX9_readNumber s m args below meth c D A cX9_readNumber Q (wE q cI cZ τ) (zI r)) :
    ∀ (σ : St) (x1 : Int) (x2 : Int) (x4 : Int) (x5 : Int) (x6 : Int) (H : Heap) (locs : List Loc) (ls : Array Slot), Wd D A s (wE q cI cZ σ) H locs → lv_has ls 7 [(0, .ref (q 7)), (1, .int (zI x1)), (2, .int (zI x2)), (4, .int (zI x4)), (5, .int (zI x5)), (6, .int (zI x6))] → pX9_readNumber_89 σ x1 x2 x4 x5 x6 = some (r, τ) → W p l e rmX9_readNumber s m args below meth c H locs 0 0 Q (F0 m 89 ls []) := by
  obtain ⟨hx, hb, hr, hml, hown, hts, hlk, hK, hN⟩ := id C
  intro σ x1 x2 x4 x5 x6 H locs ls hw hl hf
  rw [pX9_readNumber_89] at hf
  refine lv_iload hx hb dX9_readNumber_89 (lv_at hl 4 rfl) ?_
  obtain ⟨hg91, hf⟩ := gd_s hf
  refine zv_if_ne (tgt := 104) hx hb hg91 dX9_readNumber_91 (by decide) (fun (c91 : ¬ (x5 = 0)) => ?_) (fun (c91 : x5 = 0) => ?_)
  · rw [if_neg c91] at hf
    refine lv_iload hx hb dX9_readNumber_104 (lv_at hl 4 rfl) ?_
    refine lv_iconst (v := zI 3) hx hb dX9_readNumber_106 rfl ?_
    obtain ⟨hg107, hf⟩ := gd_s hf
    refine zv_icmp_gt (tgt := 120) hx hb ⟨hg107, by decide⟩ dX9_readNumber_107 (by decide) (fun (c107 : 3 < x5) => ?_) (fun (c107 : ¬ (3 < x5)) => ?_)
    · rw [if_pos c107] at hf
      exact wX9_readNumber_120 C hret σ x4 x6 H locs ls hw (lv_sub hl [0, 3, 5] rfl) hf
    · rw [if_neg c107] at hf
      refine lv_iload hx hb dX9_readNumber_110 (lv_at hl 5 rfl) ?_
      refine lv_iload_n hx hb dX9_readNumber_112 rfl (lv_at hl 1 rfl) ?_
      refine lv_iload_n hx hb dX9_readNumber_113 rfl (lv_at hl 2 rfl) ?_
      obtain ⟨r114, h114, hf⟩ := bd_s hf
      replace hf := bt_s hf
      refine gSNi (As := [.int (zI x6), .int (zI x1), .int (zI x2)]) (rest := []) C hw (tX10_isWithin h114) ⟨va_cnB 3 hts gX9_readNumber_X10_isWithin_n89 rfl rfl rfl (hN (.methodLinkNest "EggThrones$Text" 89 ⟨"EggThrones", "isWithin", "(III)Z"⟩ "EggThrones") (by decide +kernel)) (hts (.initialized RX10) (List.mem_of_getElem? (i := 23) rfl)) (by decide +kernel) ⟨Nat.le_of_ble_eq_true rfl, Nat.le_of_ble_eq_true rfl⟩, (hts (.static yX10_isWithin) (List.mem_of_getElem? (i := 22) rfl)), trivial⟩ rfl hl.1 rfl (Nat.le_of_ble_eq_true rfl) dX9_readNumber_114 (fun H locs hw => ?_)
      obtain ⟨hg117, hf⟩ := gd_s hf
      refine zv_if_ne (tgt := 127) hx hb hg117 dX9_readNumber_117 (by decide) (fun (c117 : ¬ (r114 = 0)) => ?_) (fun (c117 : r114 = 0) => ?_)
      · rw [if_neg c117] at hf
        refine lv_iload hx hb dX9_readNumber_127 (lv_at hl 5 rfl) ?_
        cases hf
        exact hret H locs ls 129 dX9_readNumber_129 hw
      · rw [if_pos c117] at hf
        exact wX9_readNumber_120 C hret σ x4 x6 H locs ls hw (lv_sub hl [0, 3, 5] rfl) hf
  · rw [if_pos c91] at hf
    refine lv_aload_n hx hb dX9_readNumber_94 rfl (lv_at hl 0 rfl) ?_
    refine lv_iconst (v := zI 1) hx hb dX9_readNumber_95 rfl ?_
    refine lv_iload hx hb dX9_readNumber_96 (lv_at hl 3 rfl) ?_
    obtain ⟨σ98, h98, hf⟩ := bd_s hf
    replace hf := bt_s hf
    refine gVv (As := [.int (zI 1), .int (zI x4)]) (rest := []) C hw (tX9_find h98) (cwV 2 hts gX9_readNumber_X9_find rfl rfl rfl (by decide +kernel) ⟨Nat.le_of_ble_eq_true rfl, Nat.le_of_ble_eq_true rfl⟩) 9 7 rfl rfl rfl hl.1 rfl (Nat.le_of_ble_eq_true rfl) dX9_readNumber_98 (fun H locs hw => ?_)
    refine lv_goto (tgt := 127) hx hb dX9_readNumber_101 (by decide) ?_
    refine lv_iload hx hb dX9_readNumber_127 (lv_at hl 5 rfl) ?_
    cases hf
    exact hret H locs ls 129 dX9_readNumber_129 hw
set_option maxHeartbeats 4000000 in
set_option maxRecDepth 100000 in
theorem wX9_readNumber_26 {p : Program} {l : Launch} {e : Env} {s : State} {m : MethodId} {args : Array Value} {below : List Frame} {meth : Method} {c : Code} {D : va_G} {A : Nat → Prop} {q : Nat → Nat} {cI cZ : ClassId} {Q : State → Prop} {r : Int} {τ : St} (C : Cx p s m args meth c D (TY cI cZ) cX9_readNumber (some .int) 7 wsX9_readNumber RX9) (hret : RtI p l e rmX9_readNumber s m args below meth c D A cX9_readNumber Q (wE q cI cZ τ) (zI r)) :
    ∀ (n : Nat) (σ : St) (x1 : Int) (x2 : Int) (x3 : Int) (x4 : Int) (x5 : Int) (x6 : Int) (H : Heap) (locs : List Loc) (ls : Array Slot), Wd D A s (wE q cI cZ σ) H locs → lv_has ls 7 [(0, .ref (q 7)), (1, .int (zI x1)), (2, .int (zI x2)), (3, .int (zI x3)), (4, .int (zI x4)), (5, .int (zI x5)), (6, .int (zI x6))] → pX9_readNumber_26 n σ x1 x2 x3 x4 x5 x6 = some (r, τ) → W p l e rmX9_readNumber s m args below meth c H locs 0 0 Q (F0 m 26 ls []) := by
  obtain ⟨hx, hb, hr, hml, hown, hts, hlk, hK, hN⟩ := id C
  intro n
  induction n with
  | zero =>
    intro σ x1 x2 x3 x4 x5 x6 H locs ls hw hl hf
    exact absurd (show (none : Option (Int × St)) = some (r, τ) from hf) (by simp)
  | succ n ih =>
    intro σ x1 x2 x3 x4 x5 x6 H locs ls hw hl hf
    rw [pX9_readNumber_26] at hf
    refine lv_iload hx hb dX9_readNumber_26 (lv_at hl 5 rfl) ?_
    refine lv_sipush (v := zI 240) hx hb dX9_readNumber_28 (by decide +kernel) ?_
    obtain ⟨hg31, hf⟩ := gd_s hf
    refine zv_icmp_ge (tgt := 89) hx hb ⟨hg31, by decide⟩ dX9_readNumber_31 (by decide) (fun (c31 : 240 ≤ x5) => ?_) (fun (c31 : ¬ (240 ≤ x5)) => ?_)
    · rw [if_pos c31] at hf
      exact wX9_readNumber_89 C hret σ x1 x2 x4 x5 x6 H locs ls hw (lv_sub hl [0, 1, 2, 4, 5, 6] rfl) hf
    · rw [if_neg c31] at hf
      refine lv_iload_n hx hb dX9_readNumber_34 rfl (lv_at hl 3 rfl) ?_
      obtain ⟨r35, h35, hf⟩ := bd_s hf
      replace hf := bt_s hf
      refine gSi (As := [.int (zI x3)]) (rest := []) C hw (tX9_isFigure h35) (va_cwS 1 hts gX9_readNumber_X9_isFigure rfl rfl rfl (by decide +kernel) ⟨Nat.le_of_ble_eq_true rfl, Nat.le_of_ble_eq_true rfl⟩) rfl hl.1 rfl (Nat.le_of_ble_eq_true rfl) dX9_readNumber_35 (fun H locs hw => ?_)
      obtain ⟨hg38, hf⟩ := gd_s hf
      refine zv_if_eq (tgt := 89) hx hb hg38 dX9_readNumber_38 (by decide) (fun (c38 : r35 = 0) => ?_) (fun (c38 : ¬ (r35 = 0)) => ?_)
      · rw [if_pos c38] at hf
        exact wX9_readNumber_89 C hret σ x1 x2 x4 x5 x6 H locs ls hw (lv_sub hl [0, 1, 2, 4, 5, 6] rfl) hf
      · rw [if_neg c38] at hf
        refine lv_iload hx hb dX9_readNumber_41 (lv_at hl 5 rfl) ?_
        refine lv_iconst (v := zI 3) hx hb dX9_readNumber_43 rfl ?_
        obtain ⟨hg44, hf⟩ := gd_s hf
        refine zv_icmp_ge (tgt := 60) hx hb ⟨hg44, by decide⟩ dX9_readNumber_44 (by decide) (fun (c44 : 3 ≤ x5) => ?_) (fun (c44 : ¬ (3 ≤ x5)) => ?_)
        · rw [if_pos c44] at hf
          refine lv_iload hx hb dX9_readNumber_60 (lv_at hl 6 rfl) ?_
          exact wX9_readNumber_62 C hret _ ih σ x1 x2 x4 x5 x6 H locs ls hw (lv_sub hl [0, 1, 2, 4, 5] rfl) hf
        · rw [if_neg c44] at hf
          refine lv_iload hx hb dX9_readNumber_47 (lv_at hl 6 rfl) ?_
          refine lv_bipush (v := zI 10) hx hb dX9_readNumber_49 (by decide +kernel) ?_
          refine zv_imul hx hb dX9_readNumber_51 ?_
          refine lv_iload_n hx hb dX9_readNumber_52 rfl (lv_at hl 3 rfl) ?_
          refine zv_iadd hx hb dX9_readNumber_53 ?_
          refine lv_bipush (v := zI 48) hx hb dX9_readNumber_54 (by decide +kernel) ?_
          refine zv_isub hx hb dX9_readNumber_56 ?_
          refine lv_goto (tgt := 62) hx hb dX9_readNumber_57 (by decide) ?_
          exact wX9_readNumber_62 C hret _ ih σ x1 x2 x4 x5 (((x6 * 10) + x3) - 48) H locs ls hw (lv_sub hl [0, 1, 2, 4, 5] rfl) hf
set_option maxHeartbeats 4000000 in
set_option maxRecDepth 100000 in
theorem wX9_readNumber_0 {p : Program} {l : Launch} {e : Env} {s : State} {m : MethodId} {args : Array Value} {below : List Frame} {meth : Method} {c : Code} {D : va_G} {A : Nat → Prop} {q : Nat → Nat} {cI cZ : ClassId} {Q : State → Prop} {r : Int} {τ : St} (C : Cx p s m args meth c D (TY cI cZ) cX9_readNumber (some .int) 7 wsX9_readNumber RX9) (hret : RtI p l e rmX9_readNumber s m args below meth c D A cX9_readNumber Q (wE q cI cZ τ) (zI r)) :
    ∀ (σ : St) (x1 : Int) (x2 : Int) (H : Heap) (locs : List Loc) (ls : Array Slot), Wd D A s (wE q cI cZ σ) H locs → lv_has ls 7 [(0, .ref (q 7)), (1, .int (zI x1)), (2, .int (zI x2))] → pX9_readNumber_0 σ x1 x2 = some (r, τ) → W p l e rmX9_readNumber s m args below meth c H locs 0 0 Q (F0 m 0 ls []) := by
  obtain ⟨hx, hb, hr, hml, hown, hts, hlk, hK, hN⟩ := id C
  intro σ x1 x2 H locs ls hw hl hf
  rw [pX9_readNumber_0] at hf
  refine lv_aload_n hx hb dX9_readNumber_0 rfl (lv_at hl 0 rfl) ?_
  refine va_get (D := D) (ci := 9) (v := .int (zI (σ.1 9))) (C := RX9) (T := TX9) (N := 5) hx hb hts (fun _ h => List.mem_cons_of_mem _ (List.mem_append_right _ h)) hown hK hw.1 7 rfl rfl 3 (by decide) (hts (.fieldLink RX9 22 "EggThrones$Text" "faultNumber" "I") (List.mem_of_getElem? (i := 1) rfl)) (fun _ h9 => h9) rfl dX9_readNumber_1 ?_
  obtain ⟨hg4, hf⟩ := gd_s hf
  refine zv_if_eq (tgt := 9) hx hb hg4 dX9_readNumber_4 (by decide) (fun (c4 : (σ.1 9) = 0) => ?_) (fun (c4 : ¬ ((σ.1 9) = 0)) => ?_)
  · rw [if_pos c4] at hf
    refine lv_aload_n hx hb dX9_readNumber_9 rfl (lv_at hl 0 rfl) ?_
    obtain ⟨⟨r10, σ10⟩, h10, hf⟩ := bd_s hf
    have hf := hf2_s hf
    refine gVi (As := []) (rest := []) C hw (tX9_skipBlanks h10) (cwV 0 hts gX9_readNumber_X9_skipBlanks rfl rfl rfl (by decide +kernel) ⟨Nat.le_of_ble_eq_true rfl, Nat.le_of_ble_eq_true rfl⟩) 9 7 rfl rfl rfl hl.1 rfl (Nat.le_of_ble_eq_true rfl) dX9_readNumber_10 (fun H locs hw => ?_)
    refine lv_istore_n (lv' := [(3, .int (zI r10)), (0, .ref (q 7)), (1, .int (zI x1)), (2, .int (zI x2))]) hx hb dX9_readNumber_13 rfl hl (by decide) rfl (fun ls hl => ?_)
    refine lv_aload_n hx hb dX9_readNumber_14 rfl (lv_at hl 1 rfl) ?_
    refine va_get (D := D) (ci := 9) (v := .int (zI (σ10.1 8))) (C := RX9) (T := TX9) (N := 5) hx hb hts (fun _ h => List.mem_cons_of_mem _ (List.mem_append_right _ h)) hown hK hw.1 7 rfl rfl 2 (by decide) (hts (.fieldLink RX9 19 "EggThrones$Text" "at" "I") (List.mem_of_getElem? (i := 2) rfl)) (fun _ h9 => h9) rfl dX9_readNumber_15 ?_
    refine lv_istore (lv' := [(4, .int (zI (σ10.1 8))), (3, .int (zI r10)), (0, .ref (q 7)), (1, .int (zI x1)), (2, .int (zI x2))]) hx hb dX9_readNumber_18 hl (by decide) rfl (fun ls hl => ?_)
    refine lv_iconst (v := zI 0) hx hb dX9_readNumber_20 rfl ?_
    refine lv_istore (lv' := [(5, .int (zI 0)), (4, .int (zI (σ10.1 8))), (3, .int (zI r10)), (0, .ref (q 7)), (1, .int (zI x1)), (2, .int (zI x2))]) hx hb dX9_readNumber_21 hl (by decide) rfl (fun ls hl => ?_)
    refine lv_iconst (v := zI 0) hx hb dX9_readNumber_23 rfl ?_
    refine lv_istore (lv' := [(6, .int (zI 0)), (5, .int (zI 0)), (4, .int (zI (σ10.1 8))), (3, .int (zI r10)), (0, .ref (q 7)), (1, .int (zI x1)), (2, .int (zI x2))]) hx hb dX9_readNumber_24 hl (by decide) rfl (fun ls hl => ?_)
    exact wX9_readNumber_26 C hret FU σ10 x1 x2 r10 (σ10.1 8) 0 0 H locs ls hw (lv_sub hl [4, 5, 6, 3, 2, 1, 0] rfl) hf
  · rw [if_neg c4] at hf
    refine lv_iconst (v := zI 0) hx hb dX9_readNumber_7 rfl ?_
    cases hf
    exact hret H locs ls 8 dX9_readNumber_8 hw
set_option maxHeartbeats 4000000 in
set_option maxRecDepth 100000 in
theorem tX9_readNumber {l : Launch} {D : va_G} {A : Nat → Prop} {cI cZ : ClassId} {q : Nat → Nat} {σ : St} {x1 : Int} {x2 : Int} {r : Int} {τ : St} (hf : pX9_readNumber σ x1 x2 = some (r, τ)) : Met l yX9_readNumber wsX9_readNumber rmX9_readNumber (va_Pc [.ref (q 7), .int (zI x1), .int (zI x2)] (CX D (TY cI cZ) A (wE q cI cZ σ))) (QI D (TY cI cZ) A (wE q cI cZ τ) (zI r)) 0 0 A := by
  refine opn (cc := cX9_readNumber) (maxL := 7) (ret := (some .int)) (by decide) rfl (Nat.le_of_ble_eq_true rfl) (fun p e s m below meth c C ls hw hl => ?_)
  have hl : lv_has ls 7 [(0, .ref (q 7)), (1, .int (zI x1)), (2, .int (zI x2))] := hl
  rw [pX9_readNumber] at hf
  exact wX9_readNumber_0 C (rtI C) σ x1 x2 _ _ ls hw (lv_sub hl [0, 1, 2] rfl) hf
abbrev rmX9_readSemicolon : Room := { frames := 2, cells := 0, slots := 0, locals := 41 }
set_option maxHeartbeats 4000000 in
set_option maxRecDepth 100000 in
theorem wX9_readSemicolon_0 {p : Program} {l : Launch} {e : Env} {s : State} {m : MethodId} {args : Array Value} {below : List Frame} {meth : Method} {c : Code} {D : va_G} {A : Nat → Prop} {q : Nat → Nat} {cI cZ : ClassId} {Q : State → Prop} {τ : St} (C : Cx p s m args meth c D (TY cI cZ) cX9_readSemicolon none 1 wsX9_readSemicolon RX9) (hret : RtV p l e rmX9_readSemicolon s m args below meth c D A cX9_readSemicolon Q (wE q cI cZ τ)) :
    ∀ (σ : St) (H : Heap) (locs : List Loc) (ls : Array Slot), Wd D A s (wE q cI cZ σ) H locs → lv_has ls 1 [(0, .ref (q 7))] → pX9_readSemicolon_0 σ = some τ → W p l e rmX9_readSemicolon s m args below meth c H locs 0 0 Q (F0 m 0 ls []) := by
  obtain ⟨hx, hb, hr, hml, hown, hts, hlk, hK, hN⟩ := id C
  intro σ H locs ls hw hl hf
  rw [pX9_readSemicolon_0] at hf
  refine lv_aload_n hx hb dX9_readSemicolon_0 rfl (lv_at hl 0 rfl) ?_
  refine va_get (D := D) (ci := 9) (v := .int (zI (σ.1 9))) (C := RX9) (T := TX9) (N := 5) hx hb hts (fun _ h => List.mem_cons_of_mem _ (List.mem_append_right _ h)) hown hK hw.1 7 rfl rfl 3 (by decide) (hts (.fieldLink RX9 22 "EggThrones$Text" "faultNumber" "I") (List.mem_of_getElem? (i := 1) rfl)) (fun _ h9 => h9) rfl dX9_readSemicolon_1 ?_
  obtain ⟨hg4, hf⟩ := gd_s hf
  refine zv_if_eq (tgt := 8) hx hb hg4 dX9_readSemicolon_4 (by decide) (fun (c4 : (σ.1 9) = 0) => ?_) (fun (c4 : ¬ ((σ.1 9) = 0)) => ?_)
  · rw [if_pos c4] at hf
    refine lv_aload_n hx hb dX9_readSemicolon_8 rfl (lv_at hl 0 rfl) ?_
    obtain ⟨⟨r9, σ9⟩, h9, hf⟩ := bd_s hf
    have hf := hf2_s hf
    refine gVi (As := []) (rest := []) C hw (tX9_skipBlanks h9) (cwV 0 hts gX9_readSemicolon_X9_skipBlanks rfl rfl rfl (by decide +kernel) ⟨Nat.le_of_ble_eq_true rfl, Nat.le_of_ble_eq_true rfl⟩) 9 7 rfl rfl rfl hl.1 rfl (Nat.le_of_ble_eq_true rfl) dX9_readSemicolon_9 (fun H locs hw => ?_)
    refine lv_bipush (v := zI 59) hx hb dX9_readSemicolon_12 (by decide +kernel) ?_
    obtain ⟨hg14, hf⟩ := gd_s hf
    refine zv_icmp_ne (tgt := 30) hx hb ⟨hg14, by decide⟩ dX9_readSemicolon_14 (by decide) (fun (c14 : ¬ (r9 = 59)) => ?_) (fun (c14 : r9 = 59) => ?_)
    · rw [if_neg c14] at hf
      refine lv_aload_n hx hb dX9_readSemicolon_30 rfl (lv_at hl 0 rfl) ?_
      refine lv_iconst (v := zI 1) hx hb dX9_readSemicolon_31 rfl ?_
      refine lv_aload_n hx hb dX9_readSemicolon_32 rfl (lv_at hl 0 rfl) ?_
      refine va_get (D := D) (ci := 9) (v := .int (zI (σ9.1 8))) (C := RX9) (T := TX9) (N := 5) hx hb hts (fun _ h => List.mem_cons_of_mem _ (List.mem_append_right _ h)) hown hK hw.1 7 rfl rfl 2 (by decide) (hts (.fieldLink RX9 19 "EggThrones$Text" "at" "I") (List.mem_of_getElem? (i := 2) rfl)) (fun _ h9 => h9) rfl dX9_readSemicolon_33 ?_
      obtain ⟨σ36, h36, hf⟩ := bd_s hf
      replace hf := bt_s hf
      refine gVv (As := [.int (zI 1), .int (zI (σ9.1 8))]) (rest := []) C hw (tX9_find h36) (cwV 2 hts gX9_readSemicolon_X9_find rfl rfl rfl (by decide +kernel) ⟨Nat.le_of_ble_eq_true rfl, Nat.le_of_ble_eq_true rfl⟩) 9 7 rfl rfl rfl hl.1 rfl (Nat.le_of_ble_eq_true rfl) dX9_readSemicolon_36 (fun H locs hw => ?_)
      cases hf
      exact hret H locs ls 39 dX9_readSemicolon_39 hw
    · rw [if_pos c14] at hf
      refine lv_aload_n hx hb dX9_readSemicolon_17 rfl (lv_at hl 0 rfl) ?_
      refine lv_dup hx hb dX9_readSemicolon_18 rfl ?_
      refine va_get (D := D) (ci := 9) (v := .int (zI (σ9.1 8))) (C := RX9) (T := TX9) (N := 5) hx hb hts (fun _ h => List.mem_cons_of_mem _ (List.mem_append_right _ h)) hown hK hw.1 7 rfl rfl 2 (by decide) (hts (.fieldLink RX9 19 "EggThrones$Text" "at" "I") (List.mem_of_getElem? (i := 2) rfl)) (fun _ h9 => h9) rfl dX9_readSemicolon_19 ?_
      refine lv_iconst (v := zI 1) hx hb dX9_readSemicolon_22 rfl ?_
      refine zv_iadd hx hb dX9_readSemicolon_23 ?_
      refine va_put (D := D) (ci := 9) (v := .int (zI ((σ9.1 8) + 1))) (ty := .int) (C := RX9) (T := TX9) (N := 5) hx hb hts (fun _ h => List.mem_cons_of_mem _ (List.mem_append_right _ h)) tyX9 tyX9_ok nmX9 hown hK hw.1 hw.2.1 hw.2.2 7 rfl rfl 2 (by decide) (hts (.fieldLink RX9 19 "EggThrones$Text" "at" "I") (List.mem_of_getElem? (i := 2) rfl)) (fun _ h9 => h9) rfl (by decide +kernel) rfl rfl (Nat.le_of_ble_eq_true rfl) dX9_readSemicolon_24 (fun H locs hP hD hS => ?_)
      have hw : Wd D A s (wE q cI cZ (sI σ9 8 ((σ9.1 8) + 1))) H locs := wdiE_8 hP hD hS
      obtain ⟨σ24, e24, hf⟩ := nm_s hf
      replace hf := bt_s hf
      rw [← e24] at hw
      refine lv_goto (tgt := 39) hx hb dX9_readSemicolon_27 (by decide) ?_
      cases hf
      exact hret H locs ls 39 dX9_readSemicolon_39 hw
  · rw [if_neg c4] at hf
    cases hf
    exact hret H locs ls 7 dX9_readSemicolon_7 hw
set_option maxHeartbeats 4000000 in
set_option maxRecDepth 100000 in
theorem tX9_readSemicolon {l : Launch} {D : va_G} {A : Nat → Prop} {cI cZ : ClassId} {q : Nat → Nat} {σ : St} {τ : St} (hf : pX9_readSemicolon σ = some τ) : Met l yX9_readSemicolon wsX9_readSemicolon rmX9_readSemicolon (va_Pc [.ref (q 7)] (CX D (TY cI cZ) A (wE q cI cZ σ))) (QV D (TY cI cZ) A (wE q cI cZ τ)) 0 0 A := by
  refine opn (cc := cX9_readSemicolon) (maxL := 1) (ret := none) (by decide) rfl (Nat.le_of_ble_eq_true rfl) (fun p e s m below meth c C ls hw hl => ?_)
  have hl : lv_has ls 1 [(0, .ref (q 7))] := hl
  rw [pX9_readSemicolon] at hf
  exact wX9_readSemicolon_0 C (rtV C) σ _ _ ls hw (lv_sub hl [0] rfl) hf
