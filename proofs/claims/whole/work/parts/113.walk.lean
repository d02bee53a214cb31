abbrev rmX10_needs : Room := { frames := 3, cells := 0, slots := 0, locals := 75 }
set_option maxHeartbeats 4000000 in
set_option maxRecDepth 100000 in
theorem wX10_needs_29 {p : Program} {l : Launch} {e : Env} {s : State} {m : MethodId} {args : Array Value} {below : List Frame} {meth : Method} {c : Code} {D : va_G} {A : Nat → Prop} {q : Nat → Nat} {cI cZ : ClassId} {Q : State → Prop} {σ : St} {r : Int} (C : Cx p s m args meth c D (TY cI cZ) cX10_needs (some .int) 4 wsX10_needs RX10) (hret : RtI p l e rmX10_needs s m args below meth c D A cX10_needs Q (wE q cI cZ σ) (zI r)) :
    ∀ (n : Nat) (x1 : Int) (x2 : Int) (x3 : Int) (H : Heap) (locs : List Loc) (ls : Array Slot), Wd D A s (wE q cI cZ σ) H locs → lv_has ls 4 [(0, .ref (q 0)), (1, .int (zI x1)), (2, .int (zI x2)), (3, .int (zI x3))] → pX10_needs_29 σ n x1 x2 x3 = some r → W p l e rmX10_needs s m args below meth c H locs 0 0 Q (F0 m 29 ls []) := by
  obtain ⟨hx, hb, hr, hml, hown, hts, hlk, hK, hN⟩ := id C
  intro n
  induction n with
  | zero =>
    intro x1 x2 x3 H locs ls hw hl hf
    exact absurd (show (none : Option (Int)) = some r from hf) (by simp)
  | succ n ih =>
    intro x1 x2 x3 H locs ls hw hl hf
    rw [pX10_needs_29] at hf
    refine lv_iload_n hx hb dX10_needs_29 rfl (lv_at hl 3 rfl) ?_
    refine lv_aload_n hx hb dX10_needs_30 rfl (lv_at hl 0 rfl) ?_
    refine va_get (D := D) (ci := 10) (v := .ref (q 1)) (C := RX10) (T := TX10) (N := 13) hx hb hts (fun _ h => List.mem_cons_of_mem _ (List.mem_append_left _ (List.mem_append_right _ h))) hown hK hw.1 0 rfl rfl 1 (by decide) (hts (.fieldLink RX10 19 "EggThrones" "laid" "LEggThrones$Table;") (List.mem_of_getElem? (i := 1) rfl)) (fun _ h9 => h9) rfl dX10_needs_31 ?_
    refine va_getN (D := D) (ci := 8) (v := .int (zI (σ.1 4))) (C := RX8) (T := TX8) (N := 10) hx hb hts (fun _ h => List.mem_cons_of_mem _ (List.mem_append_right _ h)) hown hK hw.1 1 rfl rfl 2 (by decide) (va_Nw.use rfl (hN (.fieldLinkNest "EggThrones" 136 "EggThrones$Table" "limit" "I" "EggThrones") (by decide +kernel))) (fun _ h9 => h9) rfl dX10_needs_34 ?_
    obtain ⟨hg37, hf⟩ := gd_s hf
    refine zv_icmp_gt (tgt := 61) hx hb hg37 dX10_needs_37 (by decide) (fun (c37 : (σ.1 4) < x3) => ?_) (fun (c37 : ¬ ((σ.1 4) < x3)) => ?_)
    · rw [if_pos c37] at hf
      refine lv_iconst (v := zI (-1)) hx hb dX10_needs_61 rfl ?_
      cases hf
      exact hret H locs ls 62 dX10_needs_62 hw
    · rw [if_neg c37] at hf
      refine lv_aload_n hx hb dX10_needs_40 rfl (lv_at hl 0 rfl) ?_
      refine va_get (D := D) (ci := 10) (v := .ref (q 1)) (C := RX10) (T := TX10) (N := 13) hx hb hts (fun _ h => List.mem_cons_of_mem _ (List.mem_append_left _ (List.mem_append_right _ h))) hown hK hw.1 0 rfl rfl 1 (by decide) (hts (.fieldLink RX10 19 "EggThrones" "laid" "LEggThrones$Table;") (List.mem_of_getElem? (i := 1) rfl)) (fun _ h9 => h9) rfl dX10_needs_41 ?_
      refine lv_iload_n hx hb dX10_needs_44 rfl (lv_at hl 1 rfl) ?_
      refine lv_iload_n hx hb dX10_needs_45 rfl (lv_at hl 3 rfl) ?_
      obtain ⟨r46, h46, hf⟩ := bd_s hf
      replace hf := bt_s hf
      refine gVi (As := [.int (zI x1), .int (zI x3)]) (rest := []) C hw (tX8_reign_c1 h46) (cwV 2 hts gX10_needs_X8_reign rfl rfl rfl (by decide +kernel) ⟨Nat.le_of_ble_eq_true rfl, Nat.le_of_ble_eq_true rfl⟩) 8 1 rfl rfl rfl hl.1 rfl (Nat.le_of_ble_eq_true rfl) dX10_needs_46 (fun H locs hw => ?_)
      refine lv_iload_n hx hb dX10_needs_49 rfl (lv_at hl 2 rfl) ?_
      obtain ⟨hg50, hf⟩ := gd_s hf
      refine zv_icmp_lt (tgt := 55) hx hb hg50 dX10_needs_50 (by decide) (fun (c50 : r46 < x2) => ?_) (fun (c50 : ¬ (r46 < x2)) => ?_)
      · rw [if_pos c50] at hf
        refine lv_iinc (v := zI (x3 + 1)) (lv' := [(3, .int (zI (x3 + 1))), (0, .ref (q 0)), (1, .int (zI x1)), (2, .int (zI x2))]) hx hb dX10_needs_55 hl (k := 3) rfl (zI_add _ _) (by decide) rfl (fun ls hl => ?_)
        refine lv_goto (tgt := 29) hx hb dX10_needs_58 (by decide) ?_
        exact ih x1 x2 (x3 + 1) H locs ls hw (lv_sub hl [1, 2, 3, 0] rfl) hf
      · rw [if_neg c50] at hf
        refine lv_iload_n hx hb dX10_needs_53 rfl (lv_at hl 3 rfl) ?_
        cases hf
        exact hret H locs ls 54 dX10_needs_54 hw
set_option maxHeartbeats 4000000 in
set_option maxRecDepth 100000 in
theorem wX10_needs_0 {p : Program} {l : Launch} {e : Env} {s : State} {m : MethodId} {args : Array Value} {below : List Frame} {meth : Method} {c : Code} {D : va_G} {A : Nat → Prop} {q : Nat → Nat} {cI cZ : ClassId} {Q : State → Prop} {σ : St} {r : Int} (C : Cx p s m args meth c D (TY cI cZ) cX10_needs (some .int) 4 wsX10_needs RX10) (hret : RtI p l e rmX10_needs s m args below meth c D A cX10_needs Q (wE q cI cZ σ) (zI r)) :
    ∀ (x1 : Int) (x2 : Int) (H : Heap) (locs : List Loc) (ls : Array Slot), Wd D A s (wE q cI cZ σ) H locs → lv_has ls 4 [(0, .ref (q 0)), (1, .int (zI x1)), (2, .int (zI x2))] → pX10_needs_0 σ x1 x2 = some r → W p l e rmX10_needs s m args below meth c H locs 0 0 Q (F0 m 0 ls []) := by
  obtain ⟨hx, hb, hr, hml, hown, hts, hlk, hK, hN⟩ := id C
  intro x1 x2 H locs ls hw hl hf
  rw [pX10_needs_0] at hf
  refine lv_aload_n hx hb dX10_needs_0 rfl (lv_at hl 0 rfl) ?_
  refine va_get (D := D) (ci := 10) (v := .ref (q 1)) (C := RX10) (T := TX10) (N := 13) hx hb hts (fun _ h => List.mem_cons_of_mem _ (List.mem_append_left _ (List.mem_append_right _ h))) hown hK hw.1 0 rfl rfl 1 (by decide) (hts (.fieldLink RX10 19 "EggThrones" "laid" "LEggThrones$Table;") (List.mem_of_getElem? (i := 1) rfl)) (fun _ h9 => h9) rfl dX10_needs_1 ?_
  refine lv_iload_n hx hb dX10_needs_4 rfl (lv_at hl 1 rfl) ?_
  obtain ⟨r5, h5, hf⟩ := bd_s hf
  replace hf := bt_s hf
  refine gVi (As := [.int (zI x1)]) (rest := []) C hw (tX8_hasEgg_c1 h5) (cwV 1 hts gX10_needs_X8_hasEgg rfl rfl rfl (by decide +kernel) ⟨Nat.le_of_ble_eq_true rfl, Nat.le_of_ble_eq_true rfl⟩) 8 1 rfl rfl rfl hl.1 rfl (Nat.le_of_ble_eq_true rfl) dX10_needs_5 (fun H locs hw => ?_)
  obtain ⟨hg8, hf⟩ := gd_s hf
  refine zv_if_ne (tgt := 14) hx hb hg8 dX10_needs_8 (by decide) (fun (c8 : ¬ (r5 = 0)) => ?_) (fun (c8 : r5 = 0) => ?_)
  · rw [if_neg c8] at hf
    refine lv_iload_n hx hb dX10_needs_14 rfl (lv_at hl 2 rfl) ?_
    refine lv_iconst (v := zI 1) hx hb dX10_needs_15 rfl ?_
    refine lv_bipush (v := zI 99) hx hb dX10_needs_16 (by decide +kernel) ?_
    obtain ⟨r18, h18, hf⟩ := bd_s hf
    replace hf := bt_s hf
    refine gSi (As := [.int (zI x2), .int (zI 1), .int (zI 99)]) (rest := []) C hw (tX10_isWithin h18) (va_cwS 3 hts gX10_needs_X10_isWithin rfl rfl rfl (by decide +kernel) ⟨Nat.le_of_ble_eq_true rfl, Nat.le_of_ble_eq_true rfl⟩) rfl hl.1 rfl (Nat.le_of_ble_eq_true rfl) dX10_needs_18 (fun H locs hw => ?_)
    obtain ⟨hg21, hf⟩ := gd_s hf
    refine zv_if_ne (tgt := 27) hx hb hg21 dX10_needs_21 (by decide) (fun (c21 : ¬ (r18 = 0)) => ?_) (fun (c21 : r18 = 0) => ?_)
    · rw [if_neg c21] at hf
      refine lv_iconst (v := zI 0) hx hb dX10_needs_27 rfl ?_
      refine lv_istore_n (lv' := [(3, .int (zI 0)), (0, .ref (q 0)), (1, .int (zI x1)), (2, .int (zI x2))]) hx hb dX10_needs_28 rfl hl (by decide) rfl (fun ls hl => ?_)
      exact wX10_needs_29 C hret FU x1 x2 0 H locs ls hw (lv_sub hl [1, 2, 3, 0] rfl) hf
    · rw [if_pos c21] at hf
      refine zv_ldc hx hb (-1000000002) (by decide +kernel) hown (hts (.constant RX10 95 (-1000000002)) (List.mem_of_getElem? (i := 3) rfl)) dX10_needs_24 ?_
      cases hf
      exact hret H locs ls 26 dX10_needs_26 hw
  · rw [if_pos c8] at hf
    refine zv_ldc hx hb (-1000000001) (by decide +kernel) hown (hts (.constant RX10 175 (-1000000001)) (List.mem_of_getElem? (i := 2) rfl)) dX10_needs_11 ?_
    cases hf
    exact hret H locs ls 13 dX10_needs_13 hw
set_option maxHeartbeats 4000000 in
set_option maxRecDepth 100000 in
theorem tX10_needs {l : Launch} {D : va_G} {A : Nat → Prop} {cI cZ : ClassId} {q : Nat → Nat} {σ : St} {x1 : Int} {x2 : Int} {r : Int} (hf : pX10_needs σ x1 x2 = some r) : Met l yX10_needs wsX10_needs rmX10_needs (va_Pc [.ref (q 0), .int (zI x1), .int (zI x2)] (CX D (TY cI cZ) A (wE q cI cZ σ))) (QI D (TY cI cZ) A (wE q cI cZ σ) (zI r)) 0 0 A := by
  refine opn (cc := cX10_needs) (maxL := 4) (ret := (some .int)) (by decide) rfl (Nat.le_of_ble_eq_true rfl) (fun p e s m below meth c C ls hw hl => ?_)
  have hl : lv_has ls 4 [(0, .ref (q 0)), (1, .int (zI x1)), (2, .int (zI x2))] := hl
  rw [pX10_needs] at hf
  exact wX10_needs_0 C (rtI C) x1 x2 _ _ ls hw (lv_sub hl [0, 1, 2] rfl) hf
abbrev rmX11_needs : Room := { frames := 2, cells := 0, slots := 0, locals := 46 }
set_option maxHeartbeats 4000000 in
set_option maxRecDepth 100000 in
theorem wX11_needs_28 {p : Program} {l : Launch} {e : Env} {s : State} {m : MethodId} {args : Array Value} {below : List Frame} {meth : Method} {c : Code} {D : va_G} {A : Nat → Prop} {q : Nat → Nat} {cI cZ : ClassId} {Q : State → Prop} {σ : St} {r : Int} (C : Cx p s m args meth c D (TY cI cZ) cX11_needs (some .int) 4 wsX11_needs RX11) (hret : RtI p l e rmX11_needs s m args below meth c D A cX11_needs Q (wM q cI cZ σ) (zI r)) :
    ∀ (n : Nat) (x1 : Int) (x2 : Int) (x3 : Int) (H : Heap) (locs : List Loc) (ls : Array Slot), Wd D A s (wM q cI cZ σ) H locs → lv_has ls 4 [(0, .ref (q 0)), (1, .int (zI x1)), (2, .int (zI x2)), (3, .int (zI x3))] → pX11_needs_28 σ n x1 x2 x3 = some r → W p l e rmX11_needs s m args below meth c H locs 0 0 Q (F0 m 28 ls []) := by
  obtain ⟨hx, hb, hr, hml, hown, hts, hlk, hK, hN⟩ := id C
  intro n
  induction n with
  | zero =>
    intro x1 x2 x3 H locs ls hw hl hf
    exact absurd (show (none : Option (Int)) = some r from hf) (by simp)
  | succ n ih =>
    intro x1 x2 x3 H locs ls hw hl hf
    rw [pX11_needs_28] at hf
    refine lv_iload_n hx hb dX11_needs_28 rfl (lv_at hl 3 rfl) ?_
    refine lv_aload_n hx hb dX11_needs_29 rfl (lv_at hl 0 rfl) ?_
    refine va_get (D := D) (ci := 11) (v := .int (zI (σ.1 1))) (C := RX11) (T := TX11) (N := 40) hx hb hts (fun _ h => List.mem_cons_of_mem _ (List.mem_append_right _ h)) hown hK hw.1 0 rfl rfl 1 (by decide) (hts (.fieldLink RX11 153 "EggThronesModel" "bears" "I") (List.mem_of_getElem? (i := 4) rfl)) (fun _ h9 => h9) rfl dX11_needs_30 ?_
    obtain ⟨hg33, hf⟩ := gd_s hf
    refine zv_icmp_gt (tgt := 54) hx hb hg33 dX11_needs_33 (by decide) (fun (c33 : (σ.1 1) < x3) => ?_) (fun (c33 : ¬ ((σ.1 1) < x3)) => ?_)
    · rw [if_pos c33] at hf
      refine lv_iconst (v := zI (-1)) hx hb dX11_needs_54 rfl ?_
      cases hf
      exact hret H locs ls 55 dX11_needs_55 hw
    · rw [if_neg c33] at hf
      refine lv_aload_n hx hb dX11_needs_36 rfl (lv_at hl 0 rfl) ?_
      refine lv_iload_n hx hb dX11_needs_37 rfl (lv_at hl 1 rfl) ?_
      refine lv_iload_n hx hb dX11_needs_38 rfl (lv_at hl 3 rfl) ?_
      obtain ⟨r39, h39, hf⟩ := bd_s hf
      replace hf := bt_s hf
      refine gVi (As := [.int (zI x1), .int (zI x3)]) (rest := []) C hw (tX11_reignBy h39) (cwV 2 hts gX11_needs_X11_reignBy rfl rfl rfl (by decide +kernel) ⟨Nat.le_of_ble_eq_true rfl, Nat.le_of_ble_eq_true rfl⟩) 11 0 rfl rfl rfl hl.1 rfl (Nat.le_of_ble_eq_true rfl) dX11_needs_39 (fun H locs hw => ?_)
      refine lv_iload_n hx hb dX11_needs_42 rfl (lv_at hl 2 rfl) ?_
      obtain ⟨hg43, hf⟩ := gd_s hf
      refine zv_icmp_lt (tgt := 48) hx hb hg43 dX11_needs_43 (by decide) (fun (c43 : r39 < x2) => ?_) (fun (c43 : ¬ (r39 < x2)) => ?_)
      · rw [if_pos c43] at hf
        refine lv_iinc (v := zI (x3 + 1)) (lv' := [(3, .int (zI (x3 + 1))), (0, .ref (q 0)), (1, .int (zI x1)), (2, .int (zI x2))]) hx hb dX11_needs_48 hl (k := 3) rfl (zI_add _ _) (by decide) rfl (fun ls hl => ?_)
        refine lv_goto (tgt := 28) hx hb dX11_needs_51 (by decide) ?_
        exact ih x1 x2 (x3 + 1) H locs ls hw (lv_sub hl [1, 2, 3, 0] rfl) hf
      · rw [if_neg c43] at hf
        refine lv_iload_n hx hb dX11_needs_46 rfl (lv_at hl 3 rfl) ?_
        cases hf
        exact hret H locs ls 47 dX11_needs_47 hw
set_option maxHeartbeats 4000000 in
set_option maxRecDepth 100000 in
theorem wX11_needs_0 {p : Program} {l : Launch} {e : Env} {s : State} {m : MethodId} {args : Array Value} {below : List Frame} {meth : Method} {c : Code} {D : va_G} {A : Nat → Prop} {q : Nat → Nat} {cI cZ : ClassId} {Q : State → Prop} {σ : St} {r : Int} (C : Cx p s m args meth c D (TY cI cZ) cX11_needs (some .int) 4 wsX11_needs RX11) (hret : RtI p l e rmX11_needs s m args below meth c D A cX11_needs Q (wM q cI cZ σ) (zI r)) :
    ∀ (x1 : Int) (x2 : Int) (H : Heap) (locs : List Loc) (ls : Array Slot), Wd D A s (wM q cI cZ σ) H locs → lv_has ls 4 [(0, .ref (q 0)), (1, .int (zI x1)), (2, .int (zI x2))] → pX11_needs_0 σ x1 x2 = some r → W p l e rmX11_needs s m args below meth c H locs 0 0 Q (F0 m 0 ls []) := by
  obtain ⟨hx, hb, hr, hml, hown, hts, hlk, hK, hN⟩ := id C
  intro x1 x2 H locs ls hw hl hf
  rw [pX11_needs_0] at hf
  refine lv_aload_n hx hb dX11_needs_0 rfl (lv_at hl 0 rfl) ?_
  refine lv_iload_n hx hb dX11_needs_1 rfl (lv_at hl 1 rfl) ?_
  obtain ⟨r2, h2, hf⟩ := bd_s hf
  replace hf := bt_s hf
  refine gVi (As := [.int (zI x1)]) (rest := []) C hw (tX11_isEgg h2) (cwV 1 hts gX11_needs_X11_isEgg rfl rfl rfl (by decide +kernel) ⟨Nat.le_of_ble_eq_true rfl, Nat.le_of_ble_eq_true rfl⟩) 11 0 rfl rfl rfl hl.1 rfl (Nat.le_of_ble_eq_true rfl) dX11_needs_2 (fun H locs hw => ?_)
  obtain ⟨hg5, hf⟩ := gd_s hf
  refine zv_if_ne (tgt := 11) hx hb hg5 dX11_needs_5 (by decide) (fun (c5 : ¬ (r2 = 0)) => ?_) (fun (c5 : r2 = 0) => ?_)
  · rw [if_neg c5] at hf
    refine lv_iload_n hx hb dX11_needs_11 rfl (lv_at hl 2 rfl) ?_
    obtain ⟨hz12, hf⟩ := gd_s hf
    refine zv_i2l hx hb hz12 dX11_needs_12 ?_
    refine lv_lconst (v := zL 1) hx hb dX11_needs_13 (by decide +kernel) ?_
    refine zv_ldc2 hx hb 99 (by decide +kernel) hown (hts (.constantLong RX11 229 (99)) (List.mem_of_getElem? (i := 2) rfl)) dX11_needs_14 ?_
    obtain ⟨r17, h17, hf⟩ := bd_s hf
    replace hf := bt_s hf
    refine gSi (As := [.long (zL x2), .long (zL 1), .long (zL 99)]) (rest := []) C hw (tX11_in h17) (va_cwS 3 hts gX11_needs_X11_in rfl rfl rfl (by decide +kernel) ⟨Nat.le_of_ble_eq_true rfl, Nat.le_of_ble_eq_true rfl⟩) rfl hl.1 rfl (Nat.le_of_ble_eq_true rfl) dX11_needs_17 (fun H locs hw => ?_)
    obtain ⟨hg20, hf⟩ := gd_s hf
    refine zv_if_ne (tgt := 26) hx hb hg20 dX11_needs_20 (by decide) (fun (c20 : ¬ (r17 = 0)) => ?_) (fun (c20 : r17 = 0) => ?_)
    · rw [if_neg c20] at hf
      refine lv_iconst (v := zI 0) hx hb dX11_needs_26 rfl ?_
      refine lv_istore_n (lv' := [(3, .int (zI 0)), (0, .ref (q 0)), (1, .int (zI x1)), (2, .int (zI x2))]) hx hb dX11_needs_27 rfl hl (by decide) rfl (fun ls hl => ?_)
      exact wX11_needs_28 C hret FU x1 x2 0 H locs ls hw (lv_sub hl [1, 2, 3, 0] rfl) hf
    · rw [if_pos c20] at hf
      refine zv_ldc hx hb (-1000000002) (by decide +kernel) hown (hts (.constant RX11 105 (-1000000002)) (List.mem_of_getElem? (i := 3) rfl)) dX11_needs_23 ?_
      cases hf
      exact hret H locs ls 25 dX11_needs_25 hw
  · rw [if_pos c5] at hf
    refine zv_ldc hx hb (-1000000001) (by decide +kernel) hown (hts (.constant RX11 200 (-1000000001)) (List.mem_of_getElem? (i := 1) rfl)) dX11_needs_8 ?_
    cases hf
    exact hret H locs ls 10 dX11_needs_10 hw
set_option maxHeartbeats 4000000 in
set_option maxRecDepth 100000 in
theorem tX11_needs {l : Launch} {D : va_G} {A : Nat → Prop} {cI cZ : ClassId} {q : Nat → Nat} {σ : St} {x1 : Int} {x2 : Int} {r : Int} (hf : pX11_needs σ x1 x2 = some r) : Met l yX11_needs wsX11_needs rmX11_needs (va_Pc [.ref (q 0), .int (zI x1), .int (zI x2)] (CX D (TY cI cZ) A (wM q cI cZ σ))) (QI D (TY cI cZ) A (wM q cI cZ σ) (zI r)) 0 0 A := by
  refine opn (cc := cX11_needs) (maxL := 4) (ret := (some .int)) (by decide) rfl (Nat.le_of_ble_eq_true rfl) (fun p e s m below meth c C ls hw hl => ?_)
  have hl : lv_has ls 4 [(0, .ref (q 0)), (1, .int (zI x1)), (2, .int (zI x2))] := hl
  rw [pX11_needs] at hf
  exact wX11_needs_0 C (rtI C) x1 x2 _ _ ls hw (lv_sub hl [0, 1, 2] rfl) hf
abbrev rmX0_takeOver : Room := { frames := 1, cells := 0, slots := 0, locals := 60 }
set_option maxHeartbeats 4000000 in
set_option maxRecDepth 100000 in
theorem wX0_takeOver_4 {p : Program} {l : Launch} {e : Env} {s : State} {m : MethodId} {args : Array Value} {below : List Frame} {meth : Method} {c : Code} {D : va_G} {A : Nat → Prop} {q : Nat → Nat} {cI cZ : ClassId} {Q : State → Prop} {τ : St} (C : Cx p s m args meth c D (TY cI cZ) cX0_takeOver none 3 wsX0_takeOver RX0) (hret : RtV p l e rmX0_takeOver s m args below meth c D A cX0_takeOver Q (wE q cI cZ τ)) :
    ∀ (n : Nat) (σ : St) (x1 : Int) (x2 : Int) (H : Heap) (locs : List Loc) (ls : Array Slot), Wd D A s (wE q cI cZ σ) H locs → lv_has ls 3 [(0, .ref (q 30)), (1, .int (zI x1)), (2, .int (zI x2))] → pX0_takeOver_4 n σ x1 x2 = some τ → W p l e rmX0_takeOver s m args below meth c H locs 0 0 Q (F0 m 4 ls []) := by
  obtain ⟨hx, hb, hr, hml, hown, hts, hlk, hK, hN⟩ := id C
  intro n
  induction n with
  | zero =>
    intro σ x1 x2 H locs ls hw hl hf
    exact absurd (show (none : Option (St)) = some τ from hf) (by simp)
  | succ n ih =>
    intro σ x1 x2 H locs ls hw hl hf
    rw [pX0_takeOver_4] at hf
    refine lv_iload_n hx hb dX0_takeOver_4 rfl (lv_at hl 2 rfl) ?_
    refine lv_iconst (v := zI 3) hx hb dX0_takeOver_5 rfl ?_
    obtain ⟨hg6, hf⟩ := gd_s hf
    refine zv_icmp_ge (tgt := 26) hx hb ⟨hg6, by decide⟩ dX0_takeOver_6 (by decide) (fun (c6 : 3 ≤ x2) => ?_) (fun (c6 : ¬ (3 ≤ x2)) => ?_)
    · rw [if_pos c6] at hf
      refine lv_iload_n hx hb dX0_takeOver_26 rfl (lv_at hl 1 rfl) ?_
      refine lv_aload_n hx hb dX0_takeOver_27 rfl (lv_at hl 0 rfl) ?_
      refine va_get (D := D) (ci := 0) (v := .int (zI (σ.1 27))) (C := RX0) (T := TX0) (N := 6) hx hb hts (fun _ h => List.mem_cons_of_mem _ (List.mem_append_right _ h)) hown hK hw.1 30 rfl rfl 5 (by decide) (hts (.fieldLink RX0 28 "EggThrones$Boiling" "least" "I") (List.mem_of_getElem? (i := 6) rfl)) (fun _ h9 => h9) rfl dX0_takeOver_28 ?_
      obtain ⟨hg31, hf⟩ := gd_s hf
      refine zv_icmp_ge (tgt := 54) hx hb hg31 dX0_takeOver_31 (by decide) (fun (c31 : (σ.1 27) ≤ x1) => ?_) (fun (c31 : ¬ ((σ.1 27) ≤ x1)) => ?_)
      · rw [if_pos c31] at hf
        cases hf
        exact hret H locs ls 54 dX0_takeOver_54 hw
      · rw [if_neg c31] at hf
        refine lv_aload_n hx hb dX0_takeOver_34 rfl (lv_at hl 0 rfl) ?_
        refine lv_iload_n hx hb dX0_takeOver_35 rfl (lv_at hl 1 rfl) ?_
        refine va_put (D := D) (ci := 0) (v := .int (zI x1)) (ty := .int) (C := RX0) (T := TX0) (N := 6) hx hb hts (fun _ h => List.mem_cons_of_mem _ (List.mem_append_right _ h)) tyX0 tyX0_ok nmX0 hown hK hw.1 hw.2.1 hw.2.2 30 rfl rfl 5 (by decide) (hts (.fieldLink RX0 28 "EggThrones$Boiling" "least" "I") (List.mem_of_getElem? (i := 6) rfl)) (fun _ h9 => h9) rfl (by decide +kernel) rfl rfl (Nat.le_of_ble_eq_true rfl) dX0_takeOver_36 (fun H locs hP hD hS => ?_)
        have hw : Wd D A s (wE q cI cZ (sI σ 27 x1)) H locs := wdiE_27 hP hD hS
        obtain ⟨σ36, e36, hf⟩ := nm_s hf
        replace hf := bt_s hf
        rw [← e36] at hw
        refine lv_aload_n hx hb dX0_takeOver_39 rfl (lv_at hl 0 rfl) ?_
        refine va_get (D := D) (ci := 0) (v := .ref (q 33)) (C := RX0) (T := TX0) (N := 6) hx hb hts (fun _ h => List.mem_cons_of_mem _ (List.mem_append_right _ h)) hown hK hw.1 30 rfl rfl 2 (by decide) (hts (.fieldLink RX0 18 "EggThrones$Boiling" "way" "[I") (List.mem_of_getElem? (i := 7) rfl)) (fun _ h9 => h9) rfl dX0_takeOver_40 ?_
        refine lv_iconst (v := zI 0) hx hb dX0_takeOver_43 rfl ?_
        refine lv_aload_n hx hb dX0_takeOver_44 rfl (lv_at hl 0 rfl) ?_
        refine va_get (D := D) (ci := 0) (v := .ref (q 34)) (C := RX0) (T := TX0) (N := 6) hx hb hts (fun _ h => List.mem_cons_of_mem _ (List.mem_append_right _ h)) hown hK hw.1 30 rfl rfl 3 (by decide) (hts (.fieldLink RX0 21 "EggThrones$Boiling" "bestWay" "[I") (List.mem_of_getElem? (i := 8) rfl)) (fun _ h9 => h9) rfl dX0_takeOver_45 ?_
        refine lv_iconst (v := zI 0) hx hb dX0_takeOver_48 rfl ?_
        refine lv_bipush (v := zI 7) hx hb dX0_takeOver_49 (by decide +kernel) ?_
        refine zv_copyi (D := D) (rest := []) hx hb (hml.trans hl.1.symm) hown (hts (.methodLink RX0 55 arraycopyName) (List.mem_of_getElem? (i := 9) rfl)) (hts (.native arraycopyName) (List.mem_of_getElem? (i := 10) rfl)) (hts (.static arraycopyName) (List.mem_of_getElem? (i := 11) rfl)) (hts (.initialized "java/lang/System") (List.mem_of_getElem? (i := 12) rfl)) hK hw.1 hw.2.1 hw.2.2 33 34 0 0 rfl rfl rfl rfl (by decide) (by decide) (by decide) (Nat.le_of_ble_eq_true rfl) (Nat.le_of_ble_eq_true rfl) dX0_takeOver_51 (fun H locs hP hD hS => ?_)
        have hw : Wd D A s (wE q cI cZ (sA σ36 24 (va_cpy (σ36.2 23) (σ36.2 24) 0 0 7))) H locs := wdaE_24 hP hD hS
        obtain ⟨σ51, e51, hf⟩ := nm_s hf
        replace hf := bt_s hf
        rw [← e51] at hw
        cases hf
        exact hret H locs ls 54 dX0_takeOver_54 hw
    · rw [if_neg c6] at hf
      refine lv_iload_n hx hb dX0_takeOver_9 rfl (lv_at hl 1 rfl) ?_
      refine lv_aload_n hx hb dX0_takeOver_10 rfl (lv_at hl 0 rfl) ?_
      refine va_get (D := D) (ci := 0) (v := .ref (q 32)) (C := RX0) (T := TX0) (N := 6) hx hb hts (fun _ h => List.mem_cons_of_mem _ (List.mem_append_right _ h)) hown hK hw.1 30 rfl rfl 1 (by decide) (hts (.fieldLink RX0 15 "EggThrones$Boiling" "loads" "[I") (List.mem_of_getElem? (i := 1) rfl)) (fun _ h9 => h9) rfl dX0_takeOver_11 ?_
      refine lv_iload_n hx hb dX0_takeOver_14 rfl (lv_at hl 2 rfl) ?_
      obtain ⟨hi15, hf⟩ := gd_s hf
      refine zv_iald (D := D) hx hb hK hw.1 32 0 rfl rfl hi15 (by decide) dX0_takeOver_15 ?_
      obtain ⟨hg16, hf⟩ := gd_s hf
      refine zv_mmax (rest := []) hx hb (hml.trans hl.1.symm) hown (hts (.methodLink RX0 52 Lib.Math.max.name) (List.mem_of_getElem? (i := 2) rfl)) (hts (.static Lib.Math.max.name) (List.mem_of_getElem? (i := 3) rfl)) (hts (.initialized "java/lang/Math") (List.mem_of_getElem? (i := 4) rfl)) (hts (.code Lib.Math.max.name Lib.Math.max.code 2 (some .int)) (List.mem_of_getElem? (i := 5) rfl)) (Nat.le_of_ble_eq_true rfl) (Nat.le_of_ble_eq_true rfl) (Nat.zero_le _) (Nat.zero_le _) hg16 dX0_takeOver_16 ?_
      refine lv_istore_n (lv' := [(1, .int (zI (max x1 (σ.2 22 (Int.toNat x2))))), (0, .ref (q 30)), (2, .int (zI x2))]) hx hb dX0_takeOver_19 rfl hl (by decide) rfl (fun ls hl => ?_)
      refine lv_iinc (v := zI (x2 + 1)) (lv' := [(2, .int (zI (x2 + 1))), (1, .int (zI (max x1 (σ.2 22 (Int.toNat x2))))), (0, .ref (q 30))]) hx hb dX0_takeOver_20 hl (k := 2) rfl (zI_add _ _) (by decide) rfl (fun ls hl => ?_)
      refine lv_goto (tgt := 4) hx hb dX0_takeOver_23 (by decide) ?_
      exact ih σ (max x1 (σ.2 22 (Int.toNat x2))) (x2 + 1) H locs ls hw (lv_sub hl [2, 1, 0] rfl) hf
set_option maxHeartbeats 4000000 in
set_option maxRecDepth 100000 in
theorem wX0_takeOver_0 {p : Program} {l : Launch} {e : Env} {s : State} {m : MethodId} {args : Array Value} {below : List Frame} {meth : Method} {c : Code} {D : va_G} {A : Nat → Prop} {q : Nat → Nat} {cI cZ : ClassId} {Q : State → Prop} {τ : St} (C : Cx p s m args meth c D (TY cI cZ) cX0_takeOver none 3 wsX0_takeOver RX0) (hret : RtV p l e rmX0_takeOver s m args below meth c D A cX0_takeOver Q (wE q cI cZ τ)) :
    ∀ (σ : St) (H : Heap) (locs : List Loc) (ls : Array Slot), Wd D A s (wE q cI cZ σ) H locs → lv_has ls 3 [(0, .ref (q 30))] → pX0_takeOver_0 σ = some τ → W p l e rmX0_takeOver s m args below meth c H locs 0 0 Q (F0 m 0 ls []) := by
  obtain ⟨hx, hb, hr, hml, hown, hts, hlk, hK, hN⟩ := id C
  intro σ H locs ls hw hl hf
  rw [pX0_takeOver_0] at hf
  refine lv_iconst (v := zI 0) hx hb dX0_takeOver_0 rfl ?_
  refine lv_istore_n (lv' := [(1, .int (zI 0)), (0, .ref (q 30))]) hx hb dX0_takeOver_1 rfl hl (by decide) rfl (fun ls hl => ?_)
  refine lv_iconst (v := zI 0) hx hb dX0_takeOver_2 rfl ?_
  refine lv_istore_n (lv' := [(2, .int (zI 0)), (1, .int (zI 0)), (0, .ref (q 30))]) hx hb dX0_takeOver_3 rfl hl (by decide) rfl (fun ls hl => ?_)
  exact wX0_takeOver_4 C hret FU σ 0 0 H locs ls hw (lv_sub hl [2, 1, 0] rfl) hf
set_option maxHeartbeats 4000000 in
set_option maxRecDepth 100000 in
theorem tX0_takeOver {l : Launch} {D : va_G} {A : Nat → Prop} {cI cZ : ClassId} {q : Nat → Nat} {σ : St} {τ : St} (hf : pX0_takeOver σ = some τ) : Met l yX0_takeOver wsX0_takeOver rmX0_takeOver (va_Pc [.ref (q 30)] (CX D (TY cI cZ) A (wE q cI cZ σ))) (QV D (TY cI cZ) A (wE q cI cZ τ)) 0 0 A := by
  refine opn (cc := cX0_takeOver) (maxL := 3) (ret := none) (by decide) rfl (Nat.le_of_ble_eq_true rfl) (fun p e s m below meth c C ls hw hl => ?_)
  have hl : lv_has ls 3 [(0, .ref (q 30))] := hl
  rw [pX0_takeOver] at hf
  exact wX0_takeOver_0 C (rtV C) σ _ _ ls hw (lv_sub hl [0] rfl) hf
abbrev rmX0_tryFrom (n : Nat) : Room := { frames := 2 + n, cells := 0, slots := 0, locals := 82 + 60 * n }
set_option maxHeartbeats 4000000 in
set_option maxRecDepth 100000 in
theorem wX0_tryFrom_10 {p : Program} {l : Launch} {e : Env} {s : State} {m : MethodId} {args : Array Value} {below : List Frame} {meth : Method} {c : Code} {D : va_G} {A : Nat → Prop} {q : Nat → Nat} {cI cZ : ClassId} {Q : State → Prop} {τ : St} {d : Nat} (C : Cx p s m args meth c D (TY cI cZ) cX0_tryFrom none 4 wsX0_tryFrom RX0) (hret : RtV p l e (rmX0_tryFrom (d + 1)) s m args below meth c D A cX0_tryFrom Q (wE q cI cZ τ)) :
    ∀ (σ : St) (H : Heap) (locs : List Loc) (ls : Array Slot), Wd D A s (wE q cI cZ σ) H locs → lv_has ls 4 [(0, .ref (q 30))] → pX0_tryFrom_10 σ = some τ → W p l e (rmX0_tryFrom (d + 1)) s m args below meth c H locs 0 0 Q (F0 m 10 ls []) := by
  obtain ⟨hx, hb, hr, hml, hown, hts, hlk, hK, hN⟩ := id C
  intro σ H locs ls hw hl hf
  rw [pX0_tryFrom_10] at hf
  refine lv_aload_n hx hb dX0_tryFrom_10 rfl (lv_at hl 0 rfl) ?_
  obtain ⟨σ11, h11, hf⟩ := bd_s hf
  replace hf := bt_s hf
  refine gVv (As := []) (rest := []) C hw (tX0_takeOver h11) (cwV 0 hts gX0_tryFrom_X0_takeOver rfl rfl rfl (by decide +kernel) ⟨by simp only [rmX0_tryFrom, rmX0_takeOver]; omega, by simp only [rmX0_tryFrom, rmX0_takeOver]; omega⟩) 0 30 rfl rfl rfl hl.1 rfl (Nat.le_of_ble_eq_true rfl) dX0_tryFrom_11 (fun H locs hw => ?_)
  cases hf
  exact hret H locs ls 14 dX0_tryFrom_14 hw
set_option maxHeartbeats 4000000 in
set_option maxRecDepth 100000 in
theorem wX0_tryFrom_104 {p : Program} {l : Launch} {e : Env} {s : State} {m : MethodId} {args : Array Value} {below : List Frame} {meth : Method} {c : Code} {D : va_G} {A : Nat → Prop} {q : Nat → Nat} {cI cZ : ClassId} {Q : State → Prop} {τ : St} {d : Nat} (C : Cx p s m args meth c D (TY cI cZ) cX0_tryFrom none 4 wsX0_tryFrom RX0) (hret : RtV p l e (rmX0_tryFrom (d + 1)) s m args below meth c D A cX0_tryFrom Q (wE q cI cZ τ)) (k34 : St → Int → Int → Option (St)) (hk34 : ∀ (σ : St) (x1 : Int) (x2 : Int) (H : Heap) (locs : List Loc) (ls : Array Slot), Wd D A s (wE q cI cZ σ) H locs → lv_has ls 4 [(0, .ref (q 30)), (1, .int (zI x1)), (2, .int (zI x2))] → k34 σ x1 x2 = some τ → W p l e (rmX0_tryFrom (d + 1)) s m args below meth c H locs 0 0 Q (F0 m 34 ls [])) :
    ∀ (σ : St) (x1 : Int) (x2 : Int) (H : Heap) (locs : List Loc) (ls : Array Slot), Wd D A s (wE q cI cZ σ) H locs → lv_has ls 4 [(0, .ref (q 30)), (1, .int (zI x1)), (2, .int (zI x2))] → pX0_tryFrom_104 k34 σ x1 x2 = some τ → W p l e (rmX0_tryFrom (d + 1)) s m args below meth c H locs 0 0 Q (F0 m 104 ls []) := by
  obtain ⟨hx, hb, hr, hml, hown, hts, hlk, hK, hN⟩ := id C
  intro σ x1 x2 H locs ls hw hl hf
  rw [pX0_tryFrom_104] at hf
  refine lv_iinc (v := zI (x2 + 1)) (lv' := [(2, .int (zI (x2 + 1))), (0, .ref (q 30)), (1, .int (zI x1))]) hx hb dX0_tryFrom_104 hl (k := 2) rfl (zI_add _ _) (by decide) rfl (fun ls hl => ?_)
  refine lv_goto (tgt := 34) hx hb dX0_tryFrom_107 (by decide) ?_
  exact hk34 σ x1 (x2 + 1) H locs ls hw (lv_sub hl [1, 2, 0] rfl) hf
set_option maxHeartbeats 4000000 in
set_option maxRecDepth 100000 in
theorem wX0_tryFrom_34 {p : Program} {l : Launch} {e : Env} {s : State} {m : MethodId} {args : Array Value} {below : List Frame} {meth : Method} {c : Code} {D : va_G} {A : Nat → Prop} {q : Nat → Nat} {cI cZ : ClassId} {Q : State → Prop} {τ : St} {d : Nat} (C : Cx p s m args meth c D (TY cI cZ) cX0_tryFrom none 4 wsX0_tryFrom RX0) (hret : RtV p l e (rmX0_tryFrom (d + 1)) s m args below meth c D A cX0_tryFrom Q (wE q cI cZ τ)) (fr : St → Int → Option (St)) (hfr : ∀ (σ : St) (x1 : Int) (τ : St), fr σ x1 = some τ → Met l yX0_tryFrom wsX0_tryFrom (rmX0_tryFrom d) (va_Pc [.ref (q 30), .int (zI x1)] (CX D (TY cI cZ) A (wE q cI cZ σ))) (QV D (TY cI cZ) A (wE q cI cZ τ)) 0 0 A) :
    ∀ (n : Nat) (σ : St) (x1 : Int) (x2 : Int) (H : Heap) (locs : List Loc) (ls : Array Slot), Wd D A s (wE q cI cZ σ) H locs → lv_has ls 4 [(0, .ref (q 30)), (1, .int (zI x1)), (2, .int (zI x2))] → pX0_tryFrom_34 fr n σ x1 x2 = some τ → W p l e (rmX0_tryFrom (d + 1)) s m args below meth c H locs 0 0 Q (F0 m 34 ls []) := by
  obtain ⟨hx, hb, hr, hml, hown, hts, hlk, hK, hN⟩ := id C
  intro n
  induction n with
  | zero =>
    intro σ x1 x2 H locs ls hw hl hf
    exact absurd (show (none : Option (St)) = some τ from hf) (by simp)
  | succ n ih =>
    intro σ x1 x2 H locs ls hw hl hf
    rw [pX0_tryFrom_34] at hf
    refine lv_iload_n hx hb dX0_tryFrom_34 rfl (lv_at hl 2 rfl) ?_
    refine lv_aload_n hx hb dX0_tryFrom_35 rfl (lv_at hl 0 rfl) ?_
    refine va_get (D := D) (ci := 0) (v := .int (zI (σ.1 26))) (C := RX0) (T := TX0) (N := 6) hx hb hts (fun _ h => List.mem_cons_of_mem _ (List.mem_append_right _ h)) hown hK hw.1 30 rfl rfl 4 (by decide) (hts (.fieldLink RX0 24 "EggThrones$Boiling" "places" "I") (List.mem_of_getElem? (i := 2) rfl)) (fun _ h9 => h9) rfl dX0_tryFrom_36 ?_
    obtain ⟨hg39, hf⟩ := gd_s hf
    refine zv_icmp_ge (tgt := 110) hx hb hg39 dX0_tryFrom_39 (by decide) (fun (c39 : (σ.1 26) ≤ x2) => ?_) (fun (c39 : ¬ ((σ.1 26) ≤ x2)) => ?_)
    · rw [if_pos c39] at hf
      cases hf
      exact hret H locs ls 110 dX0_tryFrom_110 hw
    · rw [if_neg c39] at hf
      refine lv_iload_n hx hb dX0_tryFrom_42 rfl (lv_at hl 2 rfl) ?_
      refine lv_iconst (v := zI 3) hx hb dX0_tryFrom_43 rfl ?_
      obtain ⟨hg44, hf⟩ := gd_s hf
      refine zv_icmp_ge (tgt := 110) hx hb ⟨hg44, by decide⟩ dX0_tryFrom_44 (by decide) (fun (c44 : 3 ≤ x2) => ?_) (fun (c44 : ¬ (3 ≤ x2)) => ?_)
      · rw [if_pos c44] at hf
        cases hf
        exact hret H locs ls 110 dX0_tryFrom_110 hw
      · rw [if_neg c44] at hf
        refine lv_aload_n hx hb dX0_tryFrom_47 rfl (lv_at hl 0 rfl) ?_
        refine va_get (D := D) (ci := 0) (v := .ref (q 32)) (C := RX0) (T := TX0) (N := 6) hx hb hts (fun _ h => List.mem_cons_of_mem _ (List.mem_append_right _ h)) hown hK hw.1 30 rfl rfl 1 (by decide) (hts (.fieldLink RX0 15 "EggThrones$Boiling" "loads" "[I") (List.mem_of_getElem? (i := 3) rfl)) (fun _ h9 => h9) rfl dX0_tryFrom_48 ?_
        refine lv_iload_n hx hb dX0_tryFrom_51 rfl (lv_at hl 2 rfl) ?_
        obtain ⟨hi52, hf⟩ := gd_s hf
        refine zv_iald (D := D) hx hb hK hw.1 32 0 rfl rfl hi52 (by decide) dX0_tryFrom_52 ?_
        refine lv_istore_n (lv' := [(3, .int (zI (σ.2 22 (Int.toNat x2)))), (0, .ref (q 30)), (1, .int (zI x1)), (2, .int (zI x2))]) hx hb dX0_tryFrom_53 rfl hl (by decide) rfl (fun ls hl => ?_)
        refine lv_iload_n hx hb dX0_tryFrom_54 rfl (lv_at hl 0 rfl) ?_
        refine lv_aload_n hx hb dX0_tryFrom_55 rfl (lv_at hl 1 rfl) ?_
        refine va_get (D := D) (ci := 0) (v := .ref (q 31)) (C := RX0) (T := TX0) (N := 6) hx hb hts (fun _ h => List.mem_cons_of_mem _ (List.mem_append_right _ h)) hown hK hw.1 30 rfl rfl 0 (by decide) (hts (.fieldLink RX0 9 "EggThrones$Boiling" "times" "[I") (List.mem_of_getElem? (i := 1) rfl)) (fun _ h9 => h9) rfl dX0_tryFrom_56 ?_
        refine lv_iload_n hx hb dX0_tryFrom_59 rfl (lv_at hl 2 rfl) ?_
        obtain ⟨hi60, hf⟩ := gd_s hf
        refine zv_iald (D := D) hx hb hK hw.1 31 0 rfl rfl hi60 (by decide) dX0_tryFrom_60 ?_
        refine zv_iadd hx hb dX0_tryFrom_61 ?_
        refine lv_aload_n hx hb dX0_tryFrom_62 rfl (lv_at hl 1 rfl) ?_
        refine va_get (D := D) (ci := 0) (v := .int (zI (σ.1 27))) (C := RX0) (T := TX0) (N := 6) hx hb hts (fun _ h => List.mem_cons_of_mem _ (List.mem_append_right _ h)) hown hK hw.1 30 rfl rfl 5 (by decide) (hts (.fieldLink RX0 28 "EggThrones$Boiling" "least" "I") (List.mem_of_getElem? (i := 4) rfl)) (fun _ h9 => h9) rfl dX0_tryFrom_63 ?_
        obtain ⟨hg66, hf⟩ := gd_s hf
        refine zv_icmp_ge (tgt := 104) hx hb hg66 dX0_tryFrom_66 (by decide) (fun (c66 : (σ.1 27) ≤ ((σ.2 22 (Int.toNat x2)) + (σ.2 21 (Int.toNat x1)))) => ?_) (fun (c66 : ¬ ((σ.1 27) ≤ ((σ.2 22 (Int.toNat x2)) + (σ.2 21 (Int.toNat x1))))) => ?_)
        · rw [if_pos c66] at hf
          exact wX0_tryFrom_104 C hret _ ih σ x1 x2 H locs ls hw (lv_sub hl [1, 2, 3] rfl) hf
        · rw [if_neg c66] at hf
          refine lv_aload_n hx hb dX0_tryFrom_69 rfl (lv_at hl 1 rfl) ?_
          refine va_get (D := D) (ci := 0) (v := .ref (q 32)) (C := RX0) (T := TX0) (N := 6) hx hb hts (fun _ h => List.mem_cons_of_mem _ (List.mem_append_right _ h)) hown hK hw.1 30 rfl rfl 1 (by decide) (hts (.fieldLink RX0 15 "EggThrones$Boiling" "loads" "[I") (List.mem_of_getElem? (i := 3) rfl)) (fun _ h9 => h9) rfl dX0_tryFrom_70 ?_
          refine lv_iload_n hx hb dX0_tryFrom_73 rfl (lv_at hl 3 rfl) ?_
          refine lv_iload_n hx hb dX0_tryFrom_74 rfl (lv_at hl 0 rfl) ?_
          refine lv_aload_n hx hb dX0_tryFrom_75 rfl (lv_at hl 1 rfl) ?_
          refine va_get (D := D) (ci := 0) (v := .ref (q 31)) (C := RX0) (T := TX0) (N := 6) hx hb hts (fun _ h => List.mem_cons_of_mem _ (List.mem_append_right _ h)) hown hK hw.1 30 rfl rfl 0 (by decide) (hts (.fieldLink RX0 9 "EggThrones$Boiling" "times" "[I") (List.mem_of_getElem? (i := 1) rfl)) (fun _ h9 => h9) rfl dX0_tryFrom_76 ?_
          refine lv_iload_n hx hb dX0_tryFrom_79 rfl (lv_at hl 2 rfl) ?_
          obtain ⟨hi80, hf⟩ := gd_s hf
          refine zv_iald (D := D) hx hb hK hw.1 31 0 rfl rfl hi80 (by decide) dX0_tryFrom_80 ?_
          refine zv_iadd hx hb dX0_tryFrom_81 ?_
          obtain ⟨hi82, hf⟩ := gd_s hf
          refine zv_iast (D := D) hx hb hK hw.1 hw.2.1 hw.2.2 32 0 rfl rfl hi82 (by decide) dX0_tryFrom_82 (fun H locs hP hD hS => ?_)
          have hw : Wd D A s (wE q cI cZ (sA σ 22 (va_up (σ.2 22) (Int.toNat x2) ((σ.2 22 (Int.toNat x2)) + (σ.2 21 (Int.toNat x1)))))) H locs := wdaE_22 hP hD hS
          obtain ⟨σ82, e82, hf⟩ := nm_s hf
          replace hf := bt_s hf
          rw [← e82] at hw
          refine lv_aload_n hx hb dX0_tryFrom_83 rfl (lv_at hl 1 rfl) ?_
          refine va_get (D := D) (ci := 0) (v := .ref (q 33)) (C := RX0) (T := TX0) (N := 6) hx hb hts (fun _ h => List.mem_cons_of_mem _ (List.mem_append_right _ h)) hown hK hw.1 30 rfl rfl 2 (by decide) (hts (.fieldLink RX0 18 "EggThrones$Boiling" "way" "[I") (List.mem_of_getElem? (i := 5) rfl)) (fun _ h9 => h9) rfl dX0_tryFrom_84 ?_
          refine lv_iload_n hx hb dX0_tryFrom_87 rfl (lv_at hl 2 rfl) ?_
          refine lv_iload_n hx hb dX0_tryFrom_88 rfl (lv_at hl 3 rfl) ?_
          obtain ⟨hi89, hf⟩ := gd_s hf
          refine zv_iast (D := D) hx hb hK hw.1 hw.2.1 hw.2.2 33 0 rfl rfl hi89 (by decide) dX0_tryFrom_89 (fun H locs hP hD hS => ?_)
          have hw : Wd D A s (wE q cI cZ (sA σ82 23 (va_up (σ82.2 23) (Int.toNat x1) x2))) H locs := wdaE_23 hP hD hS
          obtain ⟨σ89, e89, hf⟩ := nm_s hf
          replace hf := bt_s hf
          rw [← e89] at hw
          refine lv_aload_n hx hb dX0_tryFrom_90 rfl (lv_at hl 1 rfl) ?_
          refine lv_iload_n hx hb dX0_tryFrom_91 rfl (lv_at hl 2 rfl) ?_
          refine lv_iconst (v := zI 1) hx hb dX0_tryFrom_92 rfl ?_
          refine zv_iadd hx hb dX0_tryFrom_93 ?_
          obtain ⟨σ94, h94, hf⟩ := bd_s hf
          replace hf := bt_s hf
          refine gSv (As := [.ref (q 30), .int (zI (x1 + 1))]) (rest := []) C hw (hfr _ _ _ h94) (va_cwS 2 hts gX0_tryFrom_X0_tryFrom rfl rfl rfl (by decide +kernel) ⟨by show _ + d + 1 ≤ _ + (d + 1); omega, by show 8 + (_ + 11) + (_ + 60 * d) ≤ _ + 60 * (d + 1); omega⟩) rfl hl.1 rfl (Nat.le_of_ble_eq_true rfl) dX0_tryFrom_94 (fun H locs hw => ?_)
          refine lv_aload_n hx hb dX0_tryFrom_97 rfl (lv_at hl 1 rfl) ?_
          refine va_get (D := D) (ci := 0) (v := .ref (q 32)) (C := RX0) (T := TX0) (N := 6) hx hb hts (fun _ h => List.mem_cons_of_mem _ (List.mem_append_right _ h)) hown hK hw.1 30 rfl rfl 1 (by decide) (hts (.fieldLink RX0 15 "EggThrones$Boiling" "loads" "[I") (List.mem_of_getElem? (i := 3) rfl)) (fun _ h9 => h9) rfl dX0_tryFrom_98 ?_
          refine lv_iload_n hx hb dX0_tryFrom_101 rfl (lv_at hl 3 rfl) ?_
          refine lv_iload_n hx hb dX0_tryFrom_102 rfl (lv_at hl 0 rfl) ?_
          obtain ⟨hi103, hf⟩ := gd_s hf
          refine zv_iast (D := D) hx hb hK hw.1 hw.2.1 hw.2.2 32 0 rfl rfl hi103 (by decide) dX0_tryFrom_103 (fun H locs hP hD hS => ?_)
          have hw : Wd D A s (wE q cI cZ (sA σ94 22 (va_up (σ94.2 22) (Int.toNat x2) (σ.2 22 (Int.toNat x2))))) H locs := wdaE_22 hP hD hS
          obtain ⟨σ103, e103, hf⟩ := nm_s hf
          replace hf := bt_s hf
          rw [← e103] at hw
          exact wX0_tryFrom_104 C hret _ ih σ103 x1 x2 H locs ls hw (lv_sub hl [1, 2, 3] rfl) hf
set_option maxHeartbeats 4000000 in
set_option maxRecDepth 100000 in
theorem wX0_tryFrom_0 {p : Program} {l : Launch} {e : Env} {s : State} {m : MethodId} {args : Array Value} {below : List Frame} {meth : Method} {c : Code} {D : va_G} {A : Nat → Prop} {q : Nat → Nat} {cI cZ : ClassId} {Q : State → Prop} {τ : St} {d : Nat} (C : Cx p s m args meth c D (TY cI cZ) cX0_tryFrom none 4 wsX0_tryFrom RX0) (hret : RtV p l e (rmX0_tryFrom (d + 1)) s m args below meth c D A cX0_tryFrom Q (wE q cI cZ τ)) (fr : St → Int → Option (St)) (hfr : ∀ (σ : St) (x1 : Int) (τ : St), fr σ x1 = some τ → Met l yX0_tryFrom wsX0_tryFrom (rmX0_tryFrom d) (va_Pc [.ref (q 30), .int (zI x1)] (CX D (TY cI cZ) A (wE q cI cZ σ))) (QV D (TY cI cZ) A (wE q cI cZ τ)) 0 0 A) :
    ∀ (σ : St) (x1 : Int) (H : Heap) (locs : List Loc) (ls : Array Slot), Wd D A s (wE q cI cZ σ) H locs → lv_has ls 4 [(0, .ref (q 30)), (1, .int (zI x1))] → pX0_tryFrom_0 fr σ x1 = some τ → W p l e (rmX0_tryFrom (d + 1)) s m args below meth c H locs 0 0 Q (F0 m 0 ls []) := by
  obtain ⟨hx, hb, hr, hml, hown, hts, hlk, hK, hN⟩ := id C
  intro σ x1 H locs ls hw hl hf
  rw [pX0_tryFrom_0] at hf
  refine lv_iload_n hx hb dX0_tryFrom_0 rfl (lv_at hl 1 rfl) ?_
  obtain ⟨hg1, hf⟩ := gd_s hf
  refine zv_if_lt (tgt := 10) hx hb hg1 dX0_tryFrom_1 (by decide) (fun (c1 : x1 < 0) => ?_) (fun (c1 : ¬ (x1 < 0)) => ?_)
  · rw [if_pos c1] at hf
    exact wX0_tryFrom_10 C hret σ H locs ls hw (lv_sub hl [0] rfl) hf
  · rw [if_neg c1] at hf
    refine lv_iload_n hx hb dX0_tryFrom_4 rfl (lv_at hl 1 rfl) ?_
    refine lv_bipush (v := zI 7) hx hb dX0_tryFrom_5 (by decide +kernel) ?_
    obtain ⟨hg7, hf⟩ := gd_s hf
    refine zv_icmp_lt (tgt := 15) hx hb ⟨hg7, by decide⟩ dX0_tryFrom_7 (by decide) (fun (c7 : x1 < 7) => ?_) (fun (c7 : ¬ (x1 < 7)) => ?_)
    · rw [if_pos c7] at hf
      refine lv_aload_n hx hb dX0_tryFrom_15 rfl (lv_at hl 0 rfl) ?_
      refine va_get (D := D) (ci := 0) (v := .ref (q 31)) (C := RX0) (T := TX0) (N := 6) hx hb hts (fun _ h => List.mem_cons_of_mem _ (List.mem_append_right _ h)) hown hK hw.1 30 rfl rfl 0 (by decide) (hts (.fieldLink RX0 9 "EggThrones$Boiling" "times" "[I") (List.mem_of_getElem? (i := 1) rfl)) (fun _ h9 => h9) rfl dX0_tryFrom_16 ?_
      refine lv_iload_n hx hb dX0_tryFrom_19 rfl (lv_at hl 1 rfl) ?_
      obtain ⟨hi20, hf⟩ := gd_s hf
      refine zv_iald (D := D) hx hb hK hw.1 31 0 rfl rfl hi20 (by decide) dX0_tryFrom_20 ?_
      obtain ⟨hg21, hf⟩ := gd_s hf
      refine zv_if_ne (tgt := 32) hx hb hg21 dX0_tryFrom_21 (by decide) (fun (c21 : ¬ ((σ.2 21 (Int.toNat x1)) = 0)) => ?_) (fun (c21 : (σ.2 21 (Int.toNat x1)) = 0) => ?_)
      · rw [if_neg c21] at hf
        refine lv_iconst (v := zI 0) hx hb dX0_tryFrom_32 rfl ?_
        refine lv_istore_n (lv' := [(2, .int (zI 0)), (0, .ref (q 30)), (1, .int (zI x1))]) hx hb dX0_tryFrom_33 rfl hl (by decide) rfl (fun ls hl => ?_)
        exact wX0_tryFrom_34 C hret fr hfr FU σ x1 0 H locs ls hw (lv_sub hl [1, 2, 0] rfl) hf
      · rw [if_pos c21] at hf
        refine lv_aload_n hx hb dX0_tryFrom_24 rfl (lv_at hl 0 rfl) ?_
        refine lv_iload_n hx hb dX0_tryFrom_25 rfl (lv_at hl 1 rfl) ?_
        refine lv_iconst (v := zI 1) hx hb dX0_tryFrom_26 rfl ?_
        refine zv_iadd hx hb dX0_tryFrom_27 ?_
        obtain ⟨σ28, h28, hf⟩ := bd_s hf
        replace hf := bt_s hf
        refine gSv (As := [.ref (q 30), .int (zI (x1 + 1))]) (rest := []) C hw (hfr _ _ _ h28) (va_cwS 2 hts gX0_tryFrom_X0_tryFrom rfl rfl rfl (by decide +kernel) ⟨by show _ + d + 1 ≤ _ + (d + 1); omega, by show 8 + (_ + 11) + (_ + 60 * d) ≤ _ + 60 * (d + 1); omega⟩) rfl hl.1 rfl (Nat.le_of_ble_eq_true rfl) dX0_tryFrom_28 (fun H locs hw => ?_)
        cases hf
        exact hret H locs ls 31 dX0_tryFrom_31 hw
    · rw [if_neg c7] at hf
      exact wX0_tryFrom_10 C hret σ H locs ls hw (lv_sub hl [0] rfl) hf
set_option maxHeartbeats 4000000 in
set_option maxRecDepth 100000 in
theorem trX0_tryFrom {l : Launch} {D : va_G} {A : Nat → Prop} {cI cZ : ClassId} {q : Nat → Nat} : ∀ (n : Nat) (σ : St) (x1 : Int) (τ : St), pX0_tryFrom n σ x1 = some τ → Met l yX0_tryFrom wsX0_tryFrom (rmX0_tryFrom n) (va_Pc [.ref (q 30), .int (zI x1)] (CX D (TY cI cZ) A (wE q cI cZ σ))) (QV D (TY cI cZ) A (wE q cI cZ τ)) 0 0 A := by
  intro n
  induction n with
  | zero =>
    intro σ x1 τ hf
    exact absurd (show (none : Option (St)) = some τ from hf) (by simp)
  | succ n ih =>
    intro σ x1 τ hf
    refine opn (cc := cX0_tryFrom) (maxL := 4) (ret := none) (by decide) rfl (Nat.le_of_ble_eq_true rfl) (fun p e s m below meth c C ls hw hl => ?_)
    have hl : lv_has ls 4 [(0, .ref (q 30)), (1, .int (zI x1))] := hl
    rw [pX0_tryFrom] at hf
    exact wX0_tryFrom_0 C (rtV C) _ ih σ x1 _ _ ls hw (lv_sub hl [0, 1] rfl) hf
theorem tX0_tryFrom {l : Launch} {D : va_G} {A : Nat → Prop} {cI cZ : ClassId} {q : Nat → Nat} {σ : St} {x1 : Int} {τ : St} (hf : pX0_tryFrom 9 σ x1 = some τ) : Met l yX0_tryFrom wsX0_tryFrom (rmX0_tryFrom 9) (va_Pc [.ref (q 30), .int (zI x1)] (CX D (TY cI cZ) A (wE q cI cZ σ))) (QV D (TY cI cZ) A (wE q cI cZ τ)) 0 0 A := trX0_tryFrom 9 _ _ _ hf
abbrev rmX0_tryAll_c1 : Room := { frames := 12, cells := 0, slots := 0, locals := 645 }
set_option maxHeartbeats 4000000 in
set_option maxRecDepth 100000 in
theorem wX0_tryAll_c1_49 {p : Program} {l : Launch} {e : Env} {s : State} {m : MethodId} {args : Array Value} {below : List Frame} {meth : Method} {c : Code} {D : va_G} {A : Nat → Prop} {q : Nat → Nat} {cI cZ : ClassId} {Q : State → Prop} {τ : St} (C : Cx p s m args meth c D (TY cI cZ) cX0_tryAll none 4 wsX0_tryAll RX0) (hret : RtV p l e rmX0_tryAll_c1 s m args below meth c D A cX0_tryAll Q (wE q cI cZ τ)) (k20 : St → Int → Int → Option (St)) (hk20 : ∀ (σ : St) (x2 : Int) (x3 : Int) (H : Heap) (locs : List Loc) (ls : Array Slot), Wd D A s (wE q cI cZ σ) H locs → lv_has ls 4 [(0, .ref (q 30)), (1, .ref (q 1)), (2, .int (zI x2)), (3, .int (zI x3))] → k20 σ x2 x3 = some τ → W p l e rmX0_tryAll_c1 s m args below meth c H locs 0 0 Q (F0 m 20 ls [])) :
    ∀ (σ : St) (x2 : Int) (x3 : Int) (t1 : Int) (t2 : Int) (H : Heap) (locs : List Loc) (ls : Array Slot), Wd D A s (wE q cI cZ σ) H locs → lv_has ls 4 [(0, .ref (q 30)), (1, .ref (q 1)), (2, .int (zI x2)), (3, .int (zI x3))] → pX0_tryAll_c1_49 k20 σ x2 x3 t1 t2 = some τ → W p l e rmX0_tryAll_c1 s m args below meth c H locs 0 0 Q (F0 m 49 ls [.int (zI t2), .int (zI t1), .ref (q 31)]) := by
  obtain ⟨hx, hb, hr, hml, hown, hts, hlk, hK, hN⟩ := id C
  intro σ x2 x3 t1 t2 H locs ls hw hl hf
  rw [pX0_tryAll_c1_49] at hf
  obtain ⟨hi49, hf⟩ := gd_s hf
  refine zv_iast (D := D) hx hb hK hw.1 hw.2.1 hw.2.2 31 0 rfl rfl hi49 (by decide) dX0_tryAll_49 (fun H locs hP hD hS => ?_)
  have hw : Wd D A s (wE q cI cZ (sA σ 21 (va_up (σ.2 21) (Int.toNat t1) t2))) H locs := wdaE_21 hP hD hS
  obtain ⟨σ49, e49, hf⟩ := nm_s hf
  replace hf := bt_s hf
  rw [← e49] at hw
  refine lv_aload_n hx hb dX0_tryAll_50 rfl (lv_at hl 0 rfl) ?_
  refine va_get (D := D) (ci := 0) (v := .ref (q 33)) (C := RX0) (T := TX0) (N := 6) hx hb hts (fun _ h => List.mem_cons_of_mem _ (List.mem_append_right _ h)) hown hK hw.1 30 rfl rfl 2 (by decide) (hts (.fieldLink RX0 18 "EggThrones$Boiling" "way" "[I") (List.mem_of_getElem? (i := 9) rfl)) (fun _ h9 => h9) rfl dX0_tryAll_51 ?_
  refine lv_iload_n hx hb dX0_tryAll_54 rfl (lv_at hl 3 rfl) ?_
  refine lv_iconst (v := zI (-1)) hx hb dX0_tryAll_55 rfl ?_
  obtain ⟨hi56, hf⟩ := gd_s hf
  refine zv_iast (D := D) hx hb hK hw.1 hw.2.1 hw.2.2 33 0 rfl rfl hi56 (by decide) dX0_tryAll_56 (fun H locs hP hD hS => ?_)
  have hw : Wd D A s (wE q cI cZ (sA σ49 23 (va_up (σ49.2 23) (Int.toNat x3) (-1)))) H locs := wdaE_23 hP hD hS
  obtain ⟨σ56, e56, hf⟩ := nm_s hf
  replace hf := bt_s hf
  rw [← e56] at hw
  refine lv_iinc (v := zI (x3 + 1)) (lv' := [(3, .int (zI (x3 + 1))), (0, .ref (q 30)), (1, .ref (q 1)), (2, .int (zI x2))]) hx hb dX0_tryAll_57 hl (k := 3) rfl (zI_add _ _) (by decide) rfl (fun ls hl => ?_)
  refine lv_goto (tgt := 20) hx hb dX0_tryAll_60 (by decide) ?_
  exact hk20 σ56 x2 (x3 + 1) H locs ls hw (lv_sub hl [1, 2, 3, 0] rfl) hf
set_option maxHeartbeats 4000000 in
set_option maxRecDepth 100000 in
theorem wX0_tryAll_c1_65 {p : Program} {l : Launch} {e : Env} {s : State} {m : MethodId} {args : Array Value} {below : List Frame} {meth : Method} {c : Code} {D : va_G} {A : Nat → Prop} {q : Nat → Nat} {cI cZ : ClassId} {Q : State → Prop} {τ : St} (C : Cx p s m args meth c D (TY cI cZ) cX0_tryAll none 4 wsX0_tryAll RX0) (hret : RtV p l e rmX0_tryAll_c1 s m args below meth c D A cX0_tryAll Q (wE q cI cZ τ)) :
    ∀ (n : Nat) (σ : St) (x3 : Int) (H : Heap) (locs : List Loc) (ls : Array Slot), Wd D A s (wE q cI cZ σ) H locs → lv_has ls 4 [(0, .ref (q 30)), (3, .int (zI x3))] → pX0_tryAll_c1_65 n σ x3 = some τ → W p l e rmX0_tryAll_c1 s m args below meth c H locs 0 0 Q (F0 m 65 ls []) := by
  obtain ⟨hx, hb, hr, hml, hown, hts, hlk, hK, hN⟩ := id C
  intro n
  induction n with
  | zero =>
    intro σ x3 H locs ls hw hl hf
    exact absurd (show (none : Option (St)) = some τ from hf) (by simp)
  | succ n ih =>
    intro σ x3 H locs ls hw hl hf
    rw [pX0_tryAll_c1_65] at hf
    refine lv_iload_n hx hb dX0_tryAll_65 rfl (lv_at hl 1 rfl) ?_
    refine lv_iconst (v := zI 3) hx hb dX0_tryAll_66 rfl ?_
    obtain ⟨hg67, hf⟩ := gd_s hf
    refine zv_icmp_ge (tgt := 83) hx hb ⟨hg67, by decide⟩ dX0_tryAll_67 (by decide) (fun (c67 : 3 ≤ x3) => ?_) (fun (c67 : ¬ (3 ≤ x3)) => ?_)
    · rw [if_pos c67] at hf
      refine lv_aload_n hx hb dX0_tryAll_83 rfl (lv_at hl 0 rfl) ?_
      refine lv_iconst (v := zI 0) hx hb dX0_tryAll_84 rfl ?_
      obtain ⟨σ85, h85, hf⟩ := bd_s hf
      replace hf := bt_s hf
      refine gSv (As := [.ref (q 30), .int (zI 0)]) (rest := []) C hw (tX0_tryFrom h85) (va_cwS 2 hts gX0_tryAll_X0_tryFrom rfl rfl rfl (by decide +kernel) ⟨Nat.le_of_ble_eq_true rfl, Nat.le_of_ble_eq_true rfl⟩) rfl hl.1 rfl (Nat.le_of_ble_eq_true rfl) dX0_tryAll_85 (fun H locs hw => ?_)
      cases hf
      exact hret H locs ls 88 dX0_tryAll_88 hw
    · rw [if_neg c67] at hf
      refine lv_aload_n hx hb dX0_tryAll_70 rfl (lv_at hl 0 rfl) ?_
      refine va_get (D := D) (ci := 0) (v := .ref (q 32)) (C := RX0) (T := TX0) (N := 6) hx hb hts (fun _ h => List.mem_cons_of_mem _ (List.mem_append_right _ h)) hown hK hw.1 30 rfl rfl 1 (by decide) (hts (.fieldLink RX0 15 "EggThrones$Boiling" "loads" "[I") (List.mem_of_getElem? (i := 10) rfl)) (fun _ h9 => h9) rfl dX0_tryAll_71 ?_
      refine lv_iload_n hx hb dX0_tryAll_74 rfl (lv_at hl 1 rfl) ?_
      refine lv_iconst (v := zI 0) hx hb dX0_tryAll_75 rfl ?_
      obtain ⟨hi76, hf⟩ := gd_s hf
      refine zv_iast (D := D) hx hb hK hw.1 hw.2.1 hw.2.2 32 0 rfl rfl hi76 (by decide) dX0_tryAll_76 (fun H locs hP hD hS => ?_)
      have hw : Wd D A s (wE q cI cZ (sA σ 22 (va_up (σ.2 22) (Int.toNat x3) 0))) H locs := wdaE_22 hP hD hS
      obtain ⟨σ76, e76, hf⟩ := nm_s hf
      replace hf := bt_s hf
      rw [← e76] at hw
      refine lv_iinc (v := zI (x3 + 1)) (lv' := [(3, .int (zI (x3 + 1))), (0, .ref (q 30))]) hx hb dX0_tryAll_77 hl (k := 1) rfl (zI_add _ _) (by decide) rfl (fun ls hl => ?_)
      refine lv_goto (tgt := 65) hx hb dX0_tryAll_80 (by decide) ?_
      exact ih σ76 (x3 + 1) H locs ls hw (lv_sub hl [1, 0] rfl) hf
set_option maxHeartbeats 4000000 in
set_option maxRecDepth 100000 in
theorem wX0_tryAll_c1_20 {p : Program} {l : Launch} {e : Env} {s : State} {m : MethodId} {args : Array Value} {below : List Frame} {meth : Method} {c : Code} {D : va_G} {A : Nat → Prop} {q : Nat → Nat} {cI cZ : ClassId} {Q : State → Prop} {τ : St} (C : Cx p s m args meth c D (TY cI cZ) cX0_tryAll none 4 wsX0_tryAll RX0) (hret : RtV p l e rmX0_tryAll_c1 s m args below meth c D A cX0_tryAll Q (wE q cI cZ τ)) :
    ∀ (n : Nat) (σ : St) (x2 : Int) (x3 : Int) (H : Heap) (locs : List Loc) (ls : Array Slot), Wd D A s (wE q cI cZ σ) H locs → lv_has ls 4 [(0, .ref (q 30)), (1, .ref (q 1)), (2, .int (zI x2)), (3, .int (zI x3))] → pX0_tryAll_c1_20 n σ x2 x3 = some τ → W p l e rmX0_tryAll_c1 s m args below meth c H locs 0 0 Q (F0 m 20 ls []) := by
  obtain ⟨hx, hb, hr, hml, hown, hts, hlk, hK, hN⟩ := id C
  intro n
  induction n with
  | zero =>
    intro σ x2 x3 H locs ls hw hl hf
    exact absurd (show (none : Option (St)) = some τ from hf) (by simp)
  | succ n ih =>
    intro σ x2 x3 H locs ls hw hl hf
    rw [pX0_tryAll_c1_20] at hf
    refine lv_iload_n hx hb dX0_tryAll_20 rfl (lv_at hl 3 rfl) ?_
    refine lv_bipush (v := zI 7) hx hb dX0_tryAll_21 (by decide +kernel) ?_
    obtain ⟨hg23, hf⟩ := gd_s hf
    refine zv_icmp_ge (tgt := 63) hx hb ⟨hg23, by decide⟩ dX0_tryAll_23 (by decide) (fun (c23 : 7 ≤ x3) => ?_) (fun (c23 : ¬ (7 ≤ x3)) => ?_)
    · rw [if_pos c23] at hf
      refine lv_iconst (v := zI 0) hx hb dX0_tryAll_63 rfl ?_
      refine lv_istore_n (lv' := [(3, .int (zI 0)), (0, .ref (q 30)), (1, .ref (q 1)), (2, .int (zI x2))]) hx hb dX0_tryAll_64 rfl hl (by decide) rfl (fun ls hl => ?_)
      exact wX0_tryAll_c1_65 C hret FU σ 0 H locs ls hw (lv_sub hl [1, 0] rfl) hf
    · rw [if_neg c23] at hf
      refine lv_aload_n hx hb dX0_tryAll_26 rfl (lv_at hl 0 rfl) ?_
      refine va_get (D := D) (ci := 0) (v := .ref (q 31)) (C := RX0) (T := TX0) (N := 6) hx hb hts (fun _ h => List.mem_cons_of_mem _ (List.mem_append_right _ h)) hown hK hw.1 30 rfl rfl 0 (by decide) (hts (.fieldLink RX0 9 "EggThrones$Boiling" "times" "[I") (List.mem_of_getElem? (i := 8) rfl)) (fun _ h9 => h9) rfl dX0_tryAll_27 ?_
      refine lv_iload_n hx hb dX0_tryAll_30 rfl (lv_at hl 3 rfl) ?_
      refine lv_iload_n hx hb dX0_tryAll_31 rfl (lv_at hl 2 rfl) ?_
      refine lv_iload_n hx hb dX0_tryAll_32 rfl (lv_at hl 3 rfl) ?_
      refine zv_ishr hx hb dX0_tryAll_33 ?_
      refine lv_iconst (v := zI 1) hx hb dX0_tryAll_34 rfl ?_
      refine zv_iand hx hb dX0_tryAll_35 ?_
      refine lv_iconst (v := zI 1) hx hb dX0_tryAll_36 rfl ?_
      obtain ⟨hg37, hf⟩ := gd_s hf
      refine zv_icmp_ne (tgt := 48) hx hb ⟨hg37, by decide⟩ dX0_tryAll_37 (by decide) (fun (c37 : ¬ ((zAnd (zShr x2 x3) 1) = 1)) => ?_) (fun (c37 : (zAnd (zShr x2 x3) 1) = 1) => ?_)
      · rw [if_neg c37] at hf
        refine lv_iconst (v := zI 0) hx hb dX0_tryAll_48 rfl ?_
        exact wX0_tryAll_c1_49 C hret _ ih σ x2 x3 x3 0 H locs ls hw (lv_sub hl [0, 1, 2, 3] rfl) hf
      · rw [if_pos c37] at hf
        refine lv_aload_n hx hb dX0_tryAll_40 rfl (lv_at hl 1 rfl) ?_
        refine lv_iload_n hx hb dX0_tryAll_41 rfl (lv_at hl 3 rfl) ?_
        obtain ⟨r42, h42, hf⟩ := bd_s hf
        replace hf := bt_s hf
        refine gVi (As := [.int (zI x3)]) (rest := [.int (zI x3), .ref (q 31)]) C hw (tX8_wishOf_c1 h42) (cwV 1 hts gX0_tryAll_X8_wishOf rfl rfl rfl (by decide +kernel) ⟨Nat.le_of_ble_eq_true rfl, Nat.le_of_ble_eq_true rfl⟩) 8 1 rfl rfl rfl hl.1 rfl (Nat.le_of_ble_eq_true rfl) dX0_tryAll_42 (fun H locs hw => ?_)
        refine lv_goto (tgt := 49) hx hb dX0_tryAll_45 (by decide) ?_
        exact wX0_tryAll_c1_49 C hret _ ih σ x2 x3 x3 r42 H locs ls hw (lv_sub hl [0, 1, 2, 3] rfl) hf
set_option maxHeartbeats 4000000 in
set_option maxRecDepth 100000 in
theorem wX0_tryAll_c1_0 {p : Program} {l : Launch} {e : Env} {s : State} {m : MethodId} {args : Array Value} {below : List Frame} {meth : Method} {c : Code} {D : va_G} {A : Nat → Prop} {q : Nat → Nat} {cI cZ : ClassId} {Q : State → Prop} {τ : St} (C : Cx p s m args meth c D (TY cI cZ) cX0_tryAll none 4 wsX0_tryAll RX0) (hret : RtV p l e rmX0_tryAll_c1 s m args below meth c D A cX0_tryAll Q (wE q cI cZ τ)) :
    ∀ (σ : St) (x2 : Int) (H : Heap) (locs : List Loc) (ls : Array Slot), Wd D A s (wE q cI cZ σ) H locs → lv_has ls 4 [(0, .ref (q 30)), (1, .ref (q 1)), (2, .int (zI x2))] → pX0_tryAll_c1_0 σ x2 = some τ → W p l e rmX0_tryAll_c1 s m args below meth c H locs 0 0 Q (F0 m 0 ls []) := by
  obtain ⟨hx, hb, hr, hml, hown, hts, hlk, hK, hN⟩ := id C
  intro σ x2 H locs ls hw hl hf
  rw [pX0_tryAll_c1_0] at hf
  refine lv_aload_n hx hb dX0_tryAll_0 rfl (lv_at hl 0 rfl) ?_
  refine lv_aload_n hx hb dX0_tryAll_1 rfl (lv_at hl 1 rfl) ?_
  refine va_getN (D := D) (ci := 8) (v := .int (zI (σ.1 2))) (C := RX8) (T := TX8) (N := 10) hx hb hts (fun _ h => List.mem_cons_of_mem _ (List.mem_append_left _ (List.mem_append_right _ h))) hown hK hw.1 1 rfl rfl 0 (by decide) (va_Nw.use rfl (hN (.fieldLinkNest "EggThrones$Boiling" 31 "EggThrones$Table" "places" "I" "EggThrones") (by decide +kernel))) (fun _ h9 => h9) rfl dX0_tryAll_2 ?_
  refine lv_iconst (v := zI 3) hx hb dX0_tryAll_5 rfl ?_
  obtain ⟨hg6, hf⟩ := gd_s hf
  refine zv_mmin (rest := [.ref (q 30)]) hx hb (hml.trans hl.1.symm) hown (hts (.methodLink RX0 34 Lib.Math.min.name) (List.mem_of_getElem? (i := 1) rfl)) (hts (.static Lib.Math.min.name) (List.mem_of_getElem? (i := 2) rfl)) (hts (.initialized "java/lang/Math") (List.mem_of_getElem? (i := 3) rfl)) (hts (.code Lib.Math.min.name Lib.Math.min.code 2 (some .int)) (List.mem_of_getElem? (i := 4) rfl)) (Nat.le_of_ble_eq_true rfl) (Nat.le_of_ble_eq_true rfl) (Nat.zero_le _) (Nat.zero_le _) ⟨hg6, by decide⟩ dX0_tryAll_6 ?_
  refine va_put (D := D) (ci := 0) (v := .int (zI (min (σ.1 2) 3))) (ty := .int) (C := RX0) (T := TX0) (N := 6) hx hb hts (fun _ h => List.mem_cons_of_mem _ (List.mem_append_right _ h)) tyX0 tyX0_ok nmX0 hown hK hw.1 hw.2.1 hw.2.2 30 rfl rfl 4 (by decide) (hts (.fieldLink RX0 24 "EggThrones$Boiling" "places" "I") (List.mem_of_getElem? (i := 5) rfl)) (fun _ h9 => h9) rfl (by decide +kernel) rfl rfl (Nat.le_of_ble_eq_true rfl) dX0_tryAll_9 (fun H locs hP hD hS => ?_)
  have hw : Wd D A s (wE q cI cZ (sI σ 26 (min (σ.1 2) 3))) H locs := wdiE_26 hP hD hS
  obtain ⟨σ9, e9, hf⟩ := nm_s hf
  replace hf := bt_s hf
  rw [← e9] at hw
  refine lv_aload_n hx hb dX0_tryAll_12 rfl (lv_at hl 0 rfl) ?_
  refine zv_ldc hx hb 1000000 (by decide +kernel) hown (hts (.constant RX0 40 (1000000)) (List.mem_of_getElem? (i := 6) rfl)) dX0_tryAll_13 ?_
  refine va_put (D := D) (ci := 0) (v := .int (zI 1000000)) (ty := .int) (C := RX0) (T := TX0) (N := 6) hx hb hts (fun _ h => List.mem_cons_of_mem _ (List.mem_append_right _ h)) tyX0 tyX0_ok nmX0 hown hK hw.1 hw.2.1 hw.2.2 30 rfl rfl 5 (by decide) (hts (.fieldLink RX0 28 "EggThrones$Boiling" "least" "I") (List.mem_of_getElem? (i := 7) rfl)) (fun _ h9 => h9) rfl (by decide +kernel) rfl rfl (Nat.le_of_ble_eq_true rfl) dX0_tryAll_15 (fun H locs hP hD hS => ?_)
  have hw : Wd D A s (wE q cI cZ (sI σ9 27 1000000)) H locs := wdiE_27 hP hD hS
  obtain ⟨σ15, e15, hf⟩ := nm_s hf
  replace hf := bt_s hf
  rw [← e15] at hw
  refine lv_iconst (v := zI 0) hx hb dX0_tryAll_18 rfl ?_
  refine lv_istore_n (lv' := [(3, .int (zI 0)), (0, .ref (q 30)), (1, .ref (q 1)), (2, .int (zI x2))]) hx hb dX0_tryAll_19 rfl hl (by decide) rfl (fun ls hl => ?_)
  exact wX0_tryAll_c1_20 C hret FU σ15 x2 0 H locs ls hw (lv_sub hl [1, 2, 3, 0] rfl) hf
set_option maxHeartbeats 4000000 in
set_option maxRecDepth 100000 in
theorem tX0_tryAll_c1 {l : Launch} {D : va_G} {A : Nat → Prop} {cI cZ : ClassId} {q : Nat → Nat} {σ : St} {x2 : Int} {τ : St} (hf : pX0_tryAll_c1 σ x2 = some τ) : Met l yX0_tryAll wsX0_tryAll rmX0_tryAll_c1 (va_Pc [.ref (q 30), .ref (q 1), .int (zI x2)] (CX D (TY cI cZ) A (wE q cI cZ σ))) (QV D (TY cI cZ) A (wE q cI cZ τ)) 0 0 A := by
  refine opn (cc := cX0_tryAll) (maxL := 4) (ret := none) (by decide) rfl (Nat.le_of_ble_eq_true rfl) (fun p e s m below meth c C ls hw hl => ?_)
  have hl : lv_has ls 4 [(0, .ref (q 30)), (1, .ref (q 1)), (2, .int (zI x2))] := hl
  rw [pX0_tryAll_c1] at hf
  exact wX0_tryAll_c1_0 C (rtV C) σ x2 _ _ ls hw (lv_sub hl [0, 1, 2] rfl) hf
abbrev rmX0_placeOf : Room := { frames := 0, cells := 0, slots := 0, locals := 0 }
set_option maxHeartbeats 4000000 in
set_option maxRecDepth 100000 in
theorem wX0_placeOf_0 {p : Program} {l : Launch} {e : Env} {s : State} {m : MethodId} {args : Array Value} {below : List Frame} {meth : Method} {c : Code} {D : va_G} {A : Nat → Prop} {q : Nat → Nat} {cI cZ : ClassId} {Q : State → Prop} {σ : St} {r : Int} (C : Cx p s m args meth c D (TY cI cZ) cX0_placeOf (some .int) 2 wsX0_placeOf RX0) (hret : RtI p l e rmX0_placeOf s m args below meth c D A cX0_placeOf Q (wE q cI cZ σ) (zI r)) :
    ∀ (x1 : Int) (H : Heap) (locs : List Loc) (ls : Array Slot), Wd D A s (wE q cI cZ σ) H locs → lv_has ls 2 [(0, .ref (q 30)), (1, .int (zI x1))] → pX0_placeOf_0 σ x1 = some r → W p l e rmX0_placeOf s m args below meth c H locs 0 0 Q (F0 m 0 ls []) := by
  obtain ⟨hx, hb, hr, hml, hown, hts, hlk, hK, hN⟩ := id C
  intro x1 H locs ls hw hl hf
  rw [pX0_placeOf_0] at hf
  refine lv_iload_n hx hb dX0_placeOf_0 rfl (lv_at hl 1 rfl) ?_
  obtain ⟨hg1, hf⟩ := gd_s hf
  refine zv_if_lt (tgt := 19) hx hb hg1 dX0_placeOf_1 (by decide) (fun (c1 : x1 < 0) => ?_) (fun (c1 : ¬ (x1 < 0)) => ?_)
  · rw [if_pos c1] at hf
    refine lv_iconst (v := zI (-1)) hx hb dX0_placeOf_19 rfl ?_
    cases hf
    exact hret H locs ls 20 dX0_placeOf_20 hw
  · rw [if_neg c1] at hf
    refine lv_iload_n hx hb dX0_placeOf_4 rfl (lv_at hl 1 rfl) ?_
    refine lv_bipush (v := zI 7) hx hb dX0_placeOf_5 (by decide +kernel) ?_
    obtain ⟨hg7, hf⟩ := gd_s hf
    refine zv_icmp_ge (tgt := 19) hx hb ⟨hg7, by decide⟩ dX0_placeOf_7 (by decide) (fun (c7 : 7 ≤ x1) => ?_) (fun (c7 : ¬ (7 ≤ x1)) => ?_)
    · rw [if_pos c7] at hf
      refine lv_iconst (v := zI (-1)) hx hb dX0_placeOf_19 rfl ?_
      cases hf
      exact hret H locs ls 20 dX0_placeOf_20 hw
    · rw [if_neg c7] at hf
      refine lv_aload_n hx hb dX0_placeOf_10 rfl (lv_at hl 0 rfl) ?_
      refine va_get (D := D) (ci := 0) (v := .ref (q 34)) (C := RX0) (T := TX0) (N := 6) hx hb hts (fun _ h => List.mem_cons_of_mem _ (List.mem_append_right _ h)) hown hK hw.1 30 rfl rfl 3 (by decide) (hts (.fieldLink RX0 21 "EggThrones$Boiling" "bestWay" "[I") (List.mem_of_getElem? (i := 1) rfl)) (fun _ h9 => h9) rfl dX0_placeOf_11 ?_
      refine lv_iload_n hx hb dX0_placeOf_14 rfl (lv_at hl 1 rfl) ?_
      obtain ⟨hi15, hf⟩ := gd_s hf
      refine zv_iald (D := D) hx hb hK hw.1 34 0 rfl rfl hi15 (by decide) dX0_placeOf_15 ?_
      refine lv_goto (tgt := 20) hx hb dX0_placeOf_16 (by decide) ?_
      cases hf
      exact hret H locs ls 20 dX0_placeOf_20 hw
set_option maxHeartbeats 4000000 in
set_option maxRecDepth 100000 in
theorem tX0_placeOf {l : Launch} {D : va_G} {A : Nat → Prop} {cI cZ : ClassId} {q : Nat → Nat} {σ : St} {x1 : Int} {r : Int} (hf : pX0_placeOf σ x1 = some r) : Met l yX0_placeOf wsX0_placeOf rmX0_placeOf (va_Pc [.ref (q 30), .int (zI x1)] (CX D (TY cI cZ) A (wE q cI cZ σ))) (QI D (TY cI cZ) A (wE q cI cZ σ) (zI r)) 0 0 A := by
  refine opn (cc := cX0_placeOf) (maxL := 2) (ret := (some .int)) (by decide) rfl (Nat.le_of_ble_eq_true rfl) (fun p e s m below meth c C ls hw hl => ?_)
  have hl : lv_has ls 2 [(0, .ref (q 30)), (1, .int (zI x1))] := hl
  rw [pX0_placeOf] at hf
  exact wX0_placeOf_0 C (rtI C) x1 _ _ ls hw (lv_sub hl [0, 1] rfl) hf
abbrev rmX0_fewest : Room := { frames := 0, cells := 0, slots := 0, locals := 0 }
set_option maxHeartbeats 4000000 in
set_option maxRecDepth 100000 in
theorem wX0_fewest_0 {p : Program} {l : Launch} {e : Env} {s : State} {m : MethodId} {args : Array Value} {below : List Frame} {meth : Method} {c : Code} {D : va_G} {A : Nat → Prop} {q : Nat → Nat} {cI cZ : ClassId} {Q : State → Prop} {σ : St} {r : Int} (C : Cx p s m args meth c D (TY cI cZ) cX0_fewest (some .int) 1 wsX0_fewest RX0) (hret : RtI p l e rmX0_fewest s m args below meth c D A cX0_fewest Q (wE q cI cZ σ) (zI r)) :
    ∀ (H : Heap) (locs : List Loc) (ls : Array Slot), Wd D A s (wE q cI cZ σ) H locs → lv_has ls 1 [(0, .ref (q 30))] → pX0_fewest_0 σ = some r → W p l e rmX0_fewest s m args below meth c H locs 0 0 Q (F0 m 0 ls []) := by
  obtain ⟨hx, hb, hr, hml, hown, hts, hlk, hK, hN⟩ := id C
  intro H locs ls hw hl hf
  rw [pX0_fewest_0] at hf
  refine lv_aload_n hx hb dX0_fewest_0 rfl (lv_at hl 0 rfl) ?_
  refine va_get (D := D) (ci := 0) (v := .int (zI (σ.1 27))) (C := RX0) (T := TX0) (N := 6) hx hb hts (fun _ h => List.mem_cons_of_mem _ (List.mem_append_right _ h)) hown hK hw.1 30 rfl rfl 5 (by decide) (hts (.fieldLink RX0 28 "EggThrones$Boiling" "least" "I") (List.mem_of_getElem? (i := 1) rfl)) (fun _ h9 => h9) rfl dX0_fewest_1 ?_
  cases hf
  exact hret H locs ls 4 dX0_fewest_4 hw
set_option maxHeartbeats 4000000 in
set_option maxRecDepth 100000 in
theorem tX0_fewest {l : Launch} {D : va_G} {A : Nat → Prop} {cI cZ : ClassId} {q : Nat → Nat} {σ : St} {r : Int} (hf : pX0_fewest σ = some r) : Met l yX0_fewest wsX0_fewest rmX0_fewest (va_Pc [.ref (q 30)] (CX D (TY cI cZ) A (wE q cI cZ σ))) (QI D (TY cI cZ) A (wE q cI cZ σ) (zI r)) 0 0 A := by
  refine opn (cc := cX0_fewest) (maxL := 1) (ret := (some .int)) (by decide) rfl (Nat.le_of_ble_eq_true rfl) (fun p e s m below meth c C ls hw hl => ?_)
  have hl : lv_has ls 1 [(0, .ref (q 30))] := hl
  rw [pX0_fewest] at hf
  exact wX0_fewest_0 C (rtI C) _ _ ls hw (lv_sub hl [0] rfl) hf
abbrev rmX8_hasEggs_c1 : Room := { frames := 1, cells := 0, slots := 0, locals := 30 }
set_option maxHeartbeats 4000000 in
set_option maxRecDepth 100000 in
theorem wX8_hasEggs_c1_0 {p : Program} {l : Launch} {e : Env} {s : State} {m : MethodId} {args : Array Value} {below : List Frame} {meth : Method} {c : Code} {D : va_G} {A : Nat → Prop} {q : Nat → Nat} {cI cZ : ClassId} {Q : State → Prop} {σ : St} {r : Int} (C : Cx p s m args meth c D (TY cI cZ) cX8_hasEggs (some .boolean) 2 wsX8_hasEggs RX8) (hret : RtZ p l e rmX8_hasEggs_c1 s m args below meth c D A cX8_hasEggs Q (wE q cI cZ σ) (zI r)) :
    ∀ (x1 : Int) (H : Heap) (locs : List Loc) (ls : Array Slot), Wd D A s (wE q cI cZ σ) H locs → lv_has ls 2 [(0, .ref (q 1)), (1, .int (zI x1))] → pX8_hasEggs_c1_0 σ x1 = some r → W p l e rmX8_hasEggs_c1 s m args below meth c H locs 0 0 Q (F0 m 0 ls []) := by
  obtain ⟨hx, hb, hr, hml, hown, hts, hlk, hK, hN⟩ := id C
  intro x1 H locs ls hw hl hf
  rw [pX8_hasEggs_c1_0] at hf
  refine lv_iload_n hx hb dX8_hasEggs_0 rfl (lv_at hl 1 rfl) ?_
  obtain ⟨hg1, hf⟩ := gd_s hf
  refine zv_if_lt (tgt := 22) hx hb hg1 dX8_hasEggs_1 (by decide) (fun (c1 : x1 < 0) => ?_) (fun (c1 : ¬ (x1 < 0)) => ?_)
  · rw [if_pos c1] at hf
    refine lv_iconst (v := zI 0) hx hb dX8_hasEggs_22 rfl ?_
    cases hf
    exact hret H locs ls 23 dX8_hasEggs_23 (by decide +kernel) hw
  · rw [if_neg c1] at hf
    refine lv_iload_n hx hb dX8_hasEggs_4 rfl (lv_at hl 1 rfl) ?_
    refine lv_aload_n hx hb dX8_hasEggs_5 rfl (lv_at hl 0 rfl) ?_
    refine va_get (D := D) (ci := 8) (v := .int (zI (σ.1 5))) (C := RX8) (T := TX8) (N := 10) hx hb hts (fun _ h => List.mem_cons_of_mem _ (List.mem_append_right _ h)) hown hK hw.1 1 rfl rfl 3 (by decide) (hts (.fieldLink RX8 37 "EggThrones$Table" "eggs" "I") (List.mem_of_getElem? (i := 1) rfl)) (fun _ h9 => h9) rfl dX8_hasEggs_6 ?_
    refine lv_bipush (v := zI 7) hx hb dX8_hasEggs_9 (by decide +kernel) ?_
    obtain ⟨hg11, hf⟩ := gd_s hf
    refine zv_mmin (rest := [.int (zI x1)]) hx hb (hml.trans hl.1.symm) hown (hts (.methodLink RX8 53 Lib.Math.min.name) (List.mem_of_getElem? (i := 2) rfl)) (hts (.static Lib.Math.min.name) (List.mem_of_getElem? (i := 3) rfl)) (hts (.initialized "java/lang/Math") (List.mem_of_getElem? (i := 4) rfl)) (hts (.code Lib.Math.min.name Lib.Math.min.code 2 (some .int)) (List.mem_of_getElem? (i := 5) rfl)) (Nat.le_of_ble_eq_true rfl) (Nat.le_of_ble_eq_true rfl) (Nat.zero_le _) (Nat.zero_le _) ⟨hg11, by decide⟩ dX8_hasEggs_11 ?_
    refine zv_ishr hx hb dX8_hasEggs_14 ?_
    obtain ⟨hg15, hf⟩ := gd_s hf
    refine zv_if_ne (tgt := 22) hx hb hg15 dX8_hasEggs_15 (by decide) (fun (c15 : ¬ ((zShr x1 (min (σ.1 5) 7)) = 0)) => ?_) (fun (c15 : (zShr x1 (min (σ.1 5) 7)) = 0) => ?_)
    · rw [if_neg c15] at hf
      refine lv_iconst (v := zI 0) hx hb dX8_hasEggs_22 rfl ?_
      cases hf
      exact hret H locs ls 23 dX8_hasEggs_23 (by decide +kernel) hw
    · rw [if_pos c15] at hf
      refine lv_iconst (v := zI 1) hx hb dX8_hasEggs_18 rfl ?_
      refine lv_goto (tgt := 23) hx hb dX8_hasEggs_19 (by decide) ?_
      cases hf
      exact hret H locs ls 23 dX8_hasEggs_23 (by decide +kernel) hw
set_option maxHeartbeats 4000000 in
set_option maxRecDepth 100000 in
theorem tX8_hasEggs_c1 {l : Launch} {D : va_G} {A : Nat → Prop} {cI cZ : ClassId} {q : Nat → Nat} {σ : St} {x1 : Int} {r : Int} (hf : pX8_hasEggs_c1 σ x1 = some r) : Met l yX8_hasEggs wsX8_hasEggs rmX8_hasEggs_c1 (va_Pc [.ref (q 1), .int (zI x1)] (CX D (TY cI cZ) A (wE q cI cZ σ))) (QI D (TY cI cZ) A (wE q cI cZ σ) (zI r)) 0 0 A := by
  refine opn (cc := cX8_hasEggs) (maxL := 2) (ret := (some .boolean)) (by decide) rfl (Nat.le_of_ble_eq_true rfl) (fun p e s m below meth c C ls hw hl => ?_)
  have hl : lv_has ls 2 [(0, .ref (q 1)), (1, .int (zI x1))] := hl
  rw [pX8_hasEggs_c1] at hf
  exact wX8_hasEggs_c1_0 C (rtZ C) x1 _ _ ls hw (lv_sub hl [0, 1] rfl) hf
