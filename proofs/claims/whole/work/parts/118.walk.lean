abbrev rmX10_whole : Room := { frames := 1, cells := 0, slots := 0, locals := 22 }
set_option maxHeartbeats 4000000 in
set_option maxRecDepth 100000 in
theorem wX10_whole_30 {p : Program} {l : Launch} {e : Env} {s : State} {m : MethodId} {args : Array Value} {below : List Frame} {meth : Method} {c : Code} {D : va_G} {A : Nat → Prop} {q : Nat → Nat} {cI cZ : ClassId} {Q : State → Prop} {σ : St} {r : Int} (C : Cx p s m args meth c D (TY cI cZ) cX10_whole (some .int) 6 wsX10_whole RX10) (hret : RtI p l e rmX10_whole s m args below meth c D A cX10_whole Q (wE q cI cZ σ) (zI r)) :
    ∀ (n : Nat) (x1 : Int) (x2 : Int) (y3 : Int) (x5 : Int) (H : Heap) (locs : List Loc) (ls : Array Slot), Wd D A s (wE q cI cZ σ) H locs → lv_has ls 6 [(1, .int (zI x1)), (2, .int (zI x2)), (3, .long (zL y3)), (5, .int (zI x5))] → pX10_whole_30 σ n x1 x2 y3 x5 = some r → W p l e rmX10_whole s m args below meth c H locs 0 0 Q (F0 m 30 ls []) := by
  obtain ⟨hx, hb, hr, hml, hown, hts, hlk, hK, hN⟩ := id C
  intro n
  induction n with
  | zero =>
    intro x1 x2 y3 x5 H locs ls hw hl hf
    exact absurd (show (none : Option (Int)) = some r from hf) (by simp)
  | succ n ih =>
    intro x1 x2 y3 x5 H locs ls hw hl hf
    rw [pX10_whole_30] at hf
    refine lv_iload hx hb dX10_whole_30 (lv_at hl 3 rfl) ?_
    refine lv_iload_n hx hb dX10_whole_32 rfl (lv_at hl 0 rfl) ?_
    obtain ⟨hg33, hf⟩ := gd_s hf
    refine zv_icmp_ge (tgt := 54) hx hb hg33 dX10_whole_33 (by decide) (fun (c33 : x1 ≤ x5) => ?_) (fun (c33 : ¬ (x1 ≤ x5)) => ?_)
    · rw [if_pos c33] at hf
      refine lv_lload_n hx hb dX10_whole_54 rfl (lv_at hl 2 rfl) ?_
      refine zv_l2i hx hb dX10_whole_55 ?_
      cases hf
      exact hret H locs ls 56 dX10_whole_56 hw
    · rw [if_neg c33] at hf
      refine lv_lload_n hx hb dX10_whole_36 rfl (lv_at hl 2 rfl) ?_
      refine lv_bipush (v := zI 100) hx hb dX10_whole_37 (by decide +kernel) ?_
      refine lv_iload_n hx hb dX10_whole_39 rfl (lv_at hl 1 rfl) ?_
      refine zv_isub hx hb dX10_whole_40 ?_
      obtain ⟨hz41, hf⟩ := gd_s hf
      refine zv_i2l hx hb hz41 dX10_whole_41 ?_
      refine zv_lmul hx hb dX10_whole_42 ?_
      refine zv_ldc2 hx hb 100 (by decide +kernel) hown (hts (.constantLong RX10 297 (100)) (List.mem_of_getElem? (i := 3) rfl)) dX10_whole_43 ?_
      obtain ⟨hz46, hf⟩ := gd_s hf
      refine zv_ldiv hx hb hz46 dX10_whole_46 ?_
      refine lv_lstore_n (lv' := [(3, .long (zL ((y3 * (100 - x2)) / 100))), (1, .int (zI x1)), (2, .int (zI x2)), (5, .int (zI x5))]) hx hb dX10_whole_47 rfl hl (by decide) rfl (fun ls hl => ?_)
      refine lv_iinc (v := zI (x5 + 1)) (lv' := [(5, .int (zI (x5 + 1))), (3, .long (zL ((y3 * (100 - x2)) / 100))), (1, .int (zI x1)), (2, .int (zI x2))]) hx hb dX10_whole_48 hl (k := 3) rfl (zI_add _ _) (by decide) rfl (fun ls hl => ?_)
      refine lv_goto (tgt := 30) hx hb dX10_whole_51 (by decide) ?_
      exact ih x1 x2 ((y3 * (100 - x2)) / 100) (x5 + 1) H locs ls hw (lv_sub hl [2, 3, 1, 0] rfl) hf
set_option maxHeartbeats 4000000 in
set_option maxRecDepth 100000 in
theorem wX10_whole_0 {p : Program} {l : Launch} {e : Env} {s : State} {m : MethodId} {args : Array Value} {below : List Frame} {meth : Method} {c : Code} {D : va_G} {A : Nat → Prop} {q : Nat → Nat} {cI cZ : ClassId} {Q : State → Prop} {σ : St} {r : Int} (C : Cx p s m args meth c D (TY cI cZ) cX10_whole (some .int) 6 wsX10_whole RX10) (hret : RtI p l e rmX10_whole s m args below meth c D A cX10_whole Q (wE q cI cZ σ) (zI r)) :
    ∀ (x1 : Int) (x2 : Int) (H : Heap) (locs : List Loc) (ls : Array Slot), Wd D A s (wE q cI cZ σ) H locs → lv_has ls 6 [(1, .int (zI x1)), (2, .int (zI x2))] → pX10_whole_0 σ x1 x2 = some r → W p l e rmX10_whole s m args below meth c H locs 0 0 Q (F0 m 0 ls []) := by
  obtain ⟨hx, hb, hr, hml, hown, hts, hlk, hK, hN⟩ := id C
  intro x1 x2 H locs ls hw hl hf
  rw [pX10_whole_0] at hf
  refine lv_iload_n hx hb dX10_whole_0 rfl (lv_at hl 0 rfl) ?_
  refine lv_iconst (v := zI 0) hx hb dX10_whole_1 rfl ?_
  refine lv_bipush (v := zI 60) hx hb dX10_whole_2 (by decide +kernel) ?_
  obtain ⟨r4, h4, hf⟩ := bd_s hf
  replace hf := bt_s hf
  refine gSi (As := [.int (zI x1), .int (zI 0), .int (zI 60)]) (rest := []) C hw (tX10_isWithin h4) (va_cwS 3 hts gX10_whole_X10_isWithin rfl rfl rfl (by decide +kernel) ⟨Nat.le_of_ble_eq_true rfl, Nat.le_of_ble_eq_true rfl⟩) rfl hl.1 rfl (Nat.le_of_ble_eq_true rfl) dX10_whole_4 (fun H locs hw => ?_)
  obtain ⟨hg7, hf⟩ := gd_s hf
  refine zv_if_eq (tgt := 20) hx hb hg7 dX10_whole_7 (by decide) (fun (c7 : r4 = 0) => ?_) (fun (c7 : ¬ (r4 = 0)) => ?_)
  · rw [if_pos c7] at hf
    refine zv_ldc hx hb (-1000000002) (by decide +kernel) hown (hts (.constant RX10 95 (-1000000002)) (List.mem_of_getElem? (i := 1) rfl)) dX10_whole_20 ?_
    cases hf
    exact hret H locs ls 22 dX10_whole_22 hw
  · rw [if_neg c7] at hf
    refine lv_iload_n hx hb dX10_whole_10 rfl (lv_at hl 1 rfl) ?_
    refine lv_iconst (v := zI 0) hx hb dX10_whole_11 rfl ?_
    refine lv_bipush (v := zI 100) hx hb dX10_whole_12 (by decide +kernel) ?_
    obtain ⟨r14, h14, hf⟩ := bd_s hf
    replace hf := bt_s hf
    refine gSi (As := [.int (zI x2), .int (zI 0), .int (zI 100)]) (rest := []) C hw (tX10_isWithin h14) (va_cwS 3 hts gX10_whole_X10_isWithin rfl rfl rfl (by decide +kernel) ⟨Nat.le_of_ble_eq_true rfl, Nat.le_of_ble_eq_true rfl⟩) rfl hl.1 rfl (Nat.le_of_ble_eq_true rfl) dX10_whole_14 (fun H locs hw => ?_)
    obtain ⟨hg17, hf⟩ := gd_s hf
    refine zv_if_ne (tgt := 23) hx hb hg17 dX10_whole_17 (by decide) (fun (c17 : ¬ (r14 = 0)) => ?_) (fun (c17 : r14 = 0) => ?_)
    · rw [if_neg c17] at hf
      refine zv_ldc2 hx hb 1000000000 (by decide +kernel) hown (hts (.constantLong RX10 295 (1000000000)) (List.mem_of_getElem? (i := 2) rfl)) dX10_whole_23 ?_
      refine lv_lstore_n (lv' := [(3, .long (zL 1000000000)), (1, .int (zI x1)), (2, .int (zI x2))]) hx hb dX10_whole_26 rfl hl (by decide) rfl (fun ls hl => ?_)
      refine lv_iconst (v := zI 0) hx hb dX10_whole_27 rfl ?_
      refine lv_istore (lv' := [(5, .int (zI 0)), (3, .long (zL 1000000000)), (1, .int (zI x1)), (2, .int (zI x2))]) hx hb dX10_whole_28 hl (by decide) rfl (fun ls hl => ?_)
      exact wX10_whole_30 C hret FU x1 x2 1000000000 0 H locs ls hw (lv_sub hl [2, 3, 1, 0] rfl) hf
    · rw [if_pos c17] at hf
      refine zv_ldc hx hb (-1000000002) (by decide +kernel) hown (hts (.constant RX10 95 (-1000000002)) (List.mem_of_getElem? (i := 1) rfl)) dX10_whole_20 ?_
      cases hf
      exact hret H locs ls 22 dX10_whole_22 hw
set_option maxHeartbeats 4000000 in
set_option maxRecDepth 100000 in
theorem tX10_whole {l : Launch} {D : va_G} {A : Nat → Prop} {cI cZ : ClassId} {q : Nat → Nat} {σ : St} {x1 : Int} {x2 : Int} {r : Int} (hf : pX10_whole σ x1 x2 = some r) : Met l yX10_whole wsX10_whole rmX10_whole (va_Pc [.ref (q 0), .int (zI x1), .int (zI x2)] (CX D (TY cI cZ) A (wE q cI cZ σ))) (QI D (TY cI cZ) A (wE q cI cZ σ) (zI r)) 0 0 A := by
  refine opn (cc := cX10_whole) (maxL := 6) (ret := (some .int)) (by decide) rfl (Nat.le_of_ble_eq_true rfl) (fun p e s m below meth c C ls hw hl => ?_)
  have hl : lv_has ls 6 [(0, .ref (q 0)), (1, .int (zI x1)), (2, .int (zI x2))] := hl
  rw [pX10_whole] at hf
  exact wX10_whole_0 C (rtI C) x1 x2 _ _ ls hw (lv_sub hl [1, 2] rfl) hf
abbrev rmX11_whole : Room := { frames := 1, cells := 0, slots := 0, locals := 25 }
set_option maxHeartbeats 4000000 in
set_option maxRecDepth 100000 in
theorem wX11_whole_34 {p : Program} {l : Launch} {e : Env} {s : State} {m : MethodId} {args : Array Value} {below : List Frame} {meth : Method} {c : Code} {D : va_G} {A : Nat → Prop} {q : Nat → Nat} {cI cZ : ClassId} {Q : State → Prop} {σ : St} {r : Int} (C : Cx p s m args meth c D (TY cI cZ) cX11_whole (some .int) 6 wsX11_whole RX11) (hret : RtI p l e rmX11_whole s m args below meth c D A cX11_whole Q (wM q cI cZ σ) (zI r)) :
    ∀ (n : Nat) (x1 : Int) (x2 : Int) (y3 : Int) (x5 : Int) (H : Heap) (locs : List Loc) (ls : Array Slot), Wd D A s (wM q cI cZ σ) H locs → lv_has ls 6 [(1, .int (zI x1)), (2, .int (zI x2)), (3, .long (zL y3)), (5, .int (zI x5))] → pX11_whole_34 σ n x1 x2 y3 x5 = some r → W p l e rmX11_whole s m args below meth c H locs 0 0 Q (F0 m 34 ls []) := by
  obtain ⟨hx, hb, hr, hml, hown, hts, hlk, hK, hN⟩ := id C
  intro n
  induction n with
  | zero =>
    intro x1 x2 y3 x5 H locs ls hw hl hf
    exact absurd (show (none : Option (Int)) = some r from hf) (by simp)
  | succ n ih =>
    intro x1 x2 y3 x5 H locs ls hw hl hf
    rw [pX11_whole_34] at hf
    refine lv_iload hx hb dX11_whole_34 (lv_at hl 3 rfl) ?_
    refine lv_iload_n hx hb dX11_whole_36 rfl (lv_at hl 0 rfl) ?_
    obtain ⟨hg37, hf⟩ := gd_s hf
    refine zv_icmp_ge (tgt := 58) hx hb hg37 dX11_whole_37 (by decide) (fun (c37 : x1 ≤ x5) => ?_) (fun (c37 : ¬ (x1 ≤ x5)) => ?_)
    · rw [if_pos c37] at hf
      refine lv_lload_n hx hb dX11_whole_58 rfl (lv_at hl 2 rfl) ?_
      refine zv_l2i hx hb dX11_whole_59 ?_
      cases hf
      exact hret H locs ls 60 dX11_whole_60 hw
    · rw [if_neg c37] at hf
      refine lv_lload_n hx hb dX11_whole_40 rfl (lv_at hl 2 rfl) ?_
      refine lv_bipush (v := zI 100) hx hb dX11_whole_41 (by decide +kernel) ?_
      refine lv_iload_n hx hb dX11_whole_43 rfl (lv_at hl 1 rfl) ?_
      refine zv_isub hx hb dX11_whole_44 ?_
      obtain ⟨hz45, hf⟩ := gd_s hf
      refine zv_i2l hx hb hz45 dX11_whole_45 ?_
      refine zv_lmul hx hb dX11_whole_46 ?_
      refine zv_ldc2 hx hb 100 (by decide +kernel) hown (hts (.constantLong RX11 274 (100)) (List.mem_of_getElem? (i := 2) rfl)) dX11_whole_47 ?_
      obtain ⟨hz50, hf⟩ := gd_s hf
      refine zv_ldiv hx hb hz50 dX11_whole_50 ?_
      refine lv_lstore_n (lv' := [(3, .long (zL ((y3 * (100 - x2)) / 100))), (1, .int (zI x1)), (2, .int (zI x2)), (5, .int (zI x5))]) hx hb dX11_whole_51 rfl hl (by decide) rfl (fun ls hl => ?_)
      refine lv_iinc (v := zI (x5 + 1)) (lv' := [(5, .int (zI (x5 + 1))), (3, .long (zL ((y3 * (100 - x2)) / 100))), (1, .int (zI x1)), (2, .int (zI x2))]) hx hb dX11_whole_52 hl (k := 3) rfl (zI_add _ _) (by decide) rfl (fun ls hl => ?_)
      refine lv_goto (tgt := 34) hx hb dX11_whole_55 (by decide) ?_
      exact ih x1 x2 ((y3 * (100 - x2)) / 100) (x5 + 1) H locs ls hw (lv_sub hl [2, 3, 1, 0] rfl) hf
set_option maxHeartbeats 4000000 in
set_option maxRecDepth 100000 in
theorem wX11_whole_0 {p : Program} {l : Launch} {e : Env} {s : State} {m : MethodId} {args : Array Value} {below : List Frame} {meth : Method} {c : Code} {D : va_G} {A : Nat → Prop} {q : Nat → Nat} {cI cZ : ClassId} {Q : State → Prop} {σ : St} {r : Int} (C : Cx p s m args meth c D (TY cI cZ) cX11_whole (some .int) 6 wsX11_whole RX11) (hret : RtI p l e rmX11_whole s m args below meth c D A cX11_whole Q (wM q cI cZ σ) (zI r)) :
    ∀ (x1 : Int) (x2 : Int) (H : Heap) (locs : List Loc) (ls : Array Slot), Wd D A s (wM q cI cZ σ) H locs → lv_has ls 6 [(1, .int (zI x1)), (2, .int (zI x2))] → pX11_whole_0 σ x1 x2 = some r → W p l e rmX11_whole s m args below meth c H locs 0 0 Q (F0 m 0 ls []) := by
  obtain ⟨hx, hb, hr, hml, hown, hts, hlk, hK, hN⟩ := id C
  intro x1 x2 H locs ls hw hl hf
  rw [pX11_whole_0] at hf
  refine lv_iload_n hx hb dX11_whole_0 rfl (lv_at hl 0 rfl) ?_
  obtain ⟨hz1, hf⟩ := gd_s hf
  refine zv_i2l hx hb hz1 dX11_whole_1 ?_
  refine lv_lconst (v := zL 0) hx hb dX11_whole_2 (by decide +kernel) ?_
  refine zv_ldc2 hx hb 60 (by decide +kernel) hown (hts (.constantLong RX11 204 (60)) (List.mem_of_getElem? (i := 1) rfl)) dX11_whole_3 ?_
  obtain ⟨r6, h6, hf⟩ := bd_s hf
  replace hf := bt_s hf
  refine gSi (As := [.long (zL x1), .long (zL 0), .long (zL 60)]) (rest := []) C hw (tX11_in h6) (va_cwS 3 hts gX11_whole_X11_in rfl rfl rfl (by decide +kernel) ⟨Nat.le_of_ble_eq_true rfl, Nat.le_of_ble_eq_true rfl⟩) rfl hl.1 rfl (Nat.le_of_ble_eq_true rfl) dX11_whole_6 (fun H locs hw => ?_)
  obtain ⟨hg9, hf⟩ := gd_s hf
  refine zv_if_eq (tgt := 24) hx hb hg9 dX11_whole_9 (by decide) (fun (c9 : r6 = 0) => ?_) (fun (c9 : ¬ (r6 = 0)) => ?_)
  · rw [if_pos c9] at hf
    refine zv_ldc hx hb (-1000000002) (by decide +kernel) hown (hts (.constant RX11 105 (-1000000002)) (List.mem_of_getElem? (i := 3) rfl)) dX11_whole_24 ?_
    cases hf
    exact hret H locs ls 26 dX11_whole_26 hw
  · rw [if_neg c9] at hf
    refine lv_iload_n hx hb dX11_whole_12 rfl (lv_at hl 1 rfl) ?_
    obtain ⟨hz13, hf⟩ := gd_s hf
    refine zv_i2l hx hb hz13 dX11_whole_13 ?_
    refine lv_lconst (v := zL 0) hx hb dX11_whole_14 (by decide +kernel) ?_
    refine zv_ldc2 hx hb 100 (by decide +kernel) hown (hts (.constantLong RX11 274 (100)) (List.mem_of_getElem? (i := 2) rfl)) dX11_whole_15 ?_
    obtain ⟨r18, h18, hf⟩ := bd_s hf
    replace hf := bt_s hf
    refine gSi (As := [.long (zL x2), .long (zL 0), .long (zL 100)]) (rest := []) C hw (tX11_in h18) (va_cwS 3 hts gX11_whole_X11_in rfl rfl rfl (by decide +kernel) ⟨Nat.le_of_ble_eq_true rfl, Nat.le_of_ble_eq_true rfl⟩) rfl hl.1 rfl (Nat.le_of_ble_eq_true rfl) dX11_whole_18 (fun H locs hw => ?_)
    obtain ⟨hg21, hf⟩ := gd_s hf
    refine zv_if_ne (tgt := 27) hx hb hg21 dX11_whole_21 (by decide) (fun (c21 : ¬ (r18 = 0)) => ?_) (fun (c21 : r18 = 0) => ?_)
    · rw [if_neg c21] at hf
      refine zv_ldc2 hx hb 1000000000 (by decide +kernel) hown (hts (.constantLong RX11 276 (1000000000)) (List.mem_of_getElem? (i := 4) rfl)) dX11_whole_27 ?_
      refine lv_lstore_n (lv' := [(3, .long (zL 1000000000)), (1, .int (zI x1)), (2, .int (zI x2))]) hx hb dX11_whole_30 rfl hl (by decide) rfl (fun ls hl => ?_)
      refine lv_iconst (v := zI 0) hx hb dX11_whole_31 rfl ?_
      refine lv_istore (lv' := [(5, .int (zI 0)), (3, .long (zL 1000000000)), (1, .int (zI x1)), (2, .int (zI x2))]) hx hb dX11_whole_32 hl (by decide) rfl (fun ls hl => ?_)
      exact wX11_whole_34 C hret FU x1 x2 1000000000 0 H locs ls hw (lv_sub hl [2, 3, 1, 0] rfl) hf
    · rw [if_pos c21] at hf
      refine zv_ldc hx hb (-1000000002) (by decide +kernel) hown (hts (.constant RX11 105 (-1000000002)) (List.mem_of_getElem? (i := 3) rfl)) dX11_whole_24 ?_
      cases hf
      exact hret H locs ls 26 dX11_whole_26 hw
set_option maxHeartbeats 4000000 in
set_option maxRecDepth 100000 in
theorem tX11_whole {l : Launch} {D : va_G} {A : Nat → Prop} {cI cZ : ClassId} {q : Nat → Nat} {σ : St} {x1 : Int} {x2 : Int} {r : Int} (hf : pX11_whole σ x1 x2 = some r) : Met l yX11_whole wsX11_whole rmX11_whole (va_Pc [.ref (q 0), .int (zI x1), .int (zI x2)] (CX D (TY cI cZ) A (wM q cI cZ σ))) (QI D (TY cI cZ) A (wM q cI cZ σ) (zI r)) 0 0 A := by
  refine opn (cc := cX11_whole) (maxL := 6) (ret := (some .int)) (by decide) rfl (Nat.le_of_ble_eq_true rfl) (fun p e s m below meth c C ls hw hl => ?_)
  have hl : lv_has ls 6 [(0, .ref (q 0)), (1, .int (zI x1)), (2, .int (zI x2))] := hl
  rw [pX11_whole] at hf
  exact wX11_whole_0 C (rtI C) x1 x2 _ _ ls hw (lv_sub hl [1, 2] rfl) hf
abbrev rmX2_add : Room := { frames := 0, cells := 0, slots := 0, locals := 0 }
set_option maxHeartbeats 4000000 in
set_option maxRecDepth 100000 in
theorem wX2_add_0 {p : Program} {l : Launch} {e : Env} {s : State} {m : MethodId} {args : Array Value} {below : List Frame} {meth : Method} {c : Code} {D : va_G} {A : Nat → Prop} {q : Nat → Nat} {cI cZ : ClassId} {Q : State → Prop} {r : Int} {τ : St} (C : Cx p s m args meth c D (TY cI cZ) cX2_add (some .boolean) 3 wsX2_add RX2) (hret : RtZ p l e rmX2_add s m args below meth c D A cX2_add Q (wE q cI cZ τ) (zI r)) :
    ∀ (σ : St) (x1 : Int) (x2 : Int) (H : Heap) (locs : List Loc) (ls : Array Slot), Wd D A s (wE q cI cZ σ) H locs → lv_has ls 3 [(0, .ref (q 24)), (1, .int (zI x1)), (2, .int (zI x2))] → pX2_add_0 σ x1 x2 = some (r, τ) → W p l e rmX2_add s m args below meth c H locs 0 0 Q (F0 m 0 ls []) := by
  obtain ⟨hx, hb, hr, hml, hown, hts, hlk, hK, hN⟩ := id C
  intro σ x1 x2 H locs ls hw hl hf
  rw [pX2_add_0] at hf
  refine lv_aload_n hx hb dX2_add_0 rfl (lv_at hl 0 rfl) ?_
  refine va_get (D := D) (ci := 2) (v := .int (zI (σ.1 24))) (C := RX2) (T := TX2) (N := 3) hx hb hts (fun _ h => List.mem_cons_of_mem _ (List.mem_append_right _ h)) hown hK hw.1 24 rfl rfl 2 (by decide) (hts (.fieldLink RX2 18 "EggThrones$Clues" "count" "I") (List.mem_of_getElem? (i := 1) rfl)) (fun _ h9 => h9) rfl dX2_add_1 ?_
  obtain ⟨hg4, hf⟩ := gd_s hf
  refine zv_if_lt (tgt := 16) hx hb hg4 dX2_add_4 (by decide) (fun (c4 : (σ.1 24) < 0) => ?_) (fun (c4 : ¬ ((σ.1 24) < 0)) => ?_)
  · rw [if_pos c4] at hf
    refine lv_iconst (v := zI 0) hx hb dX2_add_16 rfl ?_
    cases hf
    exact hret H locs ls 17 dX2_add_17 (by decide +kernel) hw
  · rw [if_neg c4] at hf
    refine lv_aload_n hx hb dX2_add_7 rfl (lv_at hl 0 rfl) ?_
    refine va_get (D := D) (ci := 2) (v := .int (zI (σ.1 24))) (C := RX2) (T := TX2) (N := 3) hx hb hts (fun _ h => List.mem_cons_of_mem _ (List.mem_append_right _ h)) hown hK hw.1 24 rfl rfl 2 (by decide) (hts (.fieldLink RX2 18 "EggThrones$Clues" "count" "I") (List.mem_of_getElem? (i := 1) rfl)) (fun _ h9 => h9) rfl dX2_add_8 ?_
    refine lv_bipush (v := zI 6) hx hb dX2_add_11 (by decide +kernel) ?_
    obtain ⟨hg13, hf⟩ := gd_s hf
    refine zv_icmp_lt (tgt := 18) hx hb ⟨hg13, by decide⟩ dX2_add_13 (by decide) (fun (c13 : (σ.1 24) < 6) => ?_) (fun (c13 : ¬ ((σ.1 24) < 6)) => ?_)
    · rw [if_pos c13] at hf
      refine lv_aload_n hx hb dX2_add_18 rfl (lv_at hl 0 rfl) ?_
      refine va_get (D := D) (ci := 2) (v := .ref (q 25)) (C := RX2) (T := TX2) (N := 3) hx hb hts (fun _ h => List.mem_cons_of_mem _ (List.mem_append_right _ h)) hown hK hw.1 24 rfl rfl 0 (by decide) (hts (.fieldLink RX2 9 "EggThrones$Clues" "tests" "[I") (List.mem_of_getElem? (i := 2) rfl)) (fun _ h9 => h9) rfl dX2_add_19 ?_
      refine lv_aload_n hx hb dX2_add_22 rfl (lv_at hl 0 rfl) ?_
      refine va_get (D := D) (ci := 2) (v := .int (zI (σ.1 24))) (C := RX2) (T := TX2) (N := 3) hx hb hts (fun _ h => List.mem_cons_of_mem _ (List.mem_append_right _ h)) hown hK hw.1 24 rfl rfl 2 (by decide) (hts (.fieldLink RX2 18 "EggThrones$Clues" "count" "I") (List.mem_of_getElem? (i := 1) rfl)) (fun _ h9 => h9) rfl dX2_add_23 ?_
      refine lv_iload_n hx hb dX2_add_26 rfl (lv_at hl 1 rfl) ?_
      obtain ⟨hi27, hf⟩ := gd_s hf
      refine zv_iast (D := D) hx hb hK hw.1 hw.2.1 hw.2.2 25 0 rfl rfl hi27 (by decide) dX2_add_27 (fun H locs hP hD hS => ?_)
      have hw : Wd D A s (wE q cI cZ (sA σ 17 (va_up (σ.2 17) (Int.toNat (σ.1 24)) x1))) H locs := wdaE_17 hP hD hS
      obtain ⟨σ27, e27, hf⟩ := nm_s hf
      replace hf := bt_s hf
      rw [← e27] at hw
      refine lv_aload_n hx hb dX2_add_28 rfl (lv_at hl 0 rfl) ?_
      refine va_get (D := D) (ci := 2) (v := .ref (q 26)) (C := RX2) (T := TX2) (N := 3) hx hb hts (fun _ h => List.mem_cons_of_mem _ (List.mem_append_right _ h)) hown hK hw.1 24 rfl rfl 1 (by decide) (hts (.fieldLink RX2 15 "EggThrones$Clues" "answers" "[I") (List.mem_of_getElem? (i := 3) rfl)) (fun _ h9 => h9) rfl dX2_add_29 ?_
      refine lv_aload_n hx hb dX2_add_32 rfl (lv_at hl 0 rfl) ?_
      refine va_get (D := D) (ci := 2) (v := .int (zI (σ27.1 24))) (C := RX2) (T := TX2) (N := 3) hx hb hts (fun _ h => List.mem_cons_of_mem _ (List.mem_append_right _ h)) hown hK hw.1 24 rfl rfl 2 (by decide) (hts (.fieldLink RX2 18 "EggThrones$Clues" "count" "I") (List.mem_of_getElem? (i := 1) rfl)) (fun _ h9 => h9) rfl dX2_add_33 ?_
      refine lv_iload_n hx hb dX2_add_36 rfl (lv_at hl 2 rfl) ?_
      obtain ⟨hi37, hf⟩ := gd_s hf
      refine zv_iast (D := D) hx hb hK hw.1 hw.2.1 hw.2.2 26 0 rfl rfl hi37 (by decide) dX2_add_37 (fun H locs hP hD hS => ?_)
      have hw : Wd D A s (wE q cI cZ (sA σ27 18 (va_up (σ27.2 18) (Int.toNat (σ27.1 24)) x2))) H locs := wdaE_18 hP hD hS
      obtain ⟨σ37, e37, hf⟩ := nm_s hf
      replace hf := bt_s hf
      rw [← e37] at hw
      refine lv_aload_n hx hb dX2_add_38 rfl (lv_at hl 0 rfl) ?_
      refine lv_dup hx hb dX2_add_39 rfl ?_
      refine va_get (D := D) (ci := 2) (v := .int (zI (σ37.1 24))) (C := RX2) (T := TX2) (N := 3) hx hb hts (fun _ h => List.mem_cons_of_mem _ (List.mem_append_right _ h)) hown hK hw.1 24 rfl rfl 2 (by decide) (hts (.fieldLink RX2 18 "EggThrones$Clues" "count" "I") (List.mem_of_getElem? (i := 1) rfl)) (fun _ h9 => h9) rfl dX2_add_40 ?_
      refine lv_iconst (v := zI 1) hx hb dX2_add_43 rfl ?_
      refine zv_iadd hx hb dX2_add_44 ?_
      refine va_put (D := D) (ci := 2) (v := .int (zI ((σ37.1 24) + 1))) (ty := .int) (C := RX2) (T := TX2) (N := 3) hx hb hts (fun _ h => List.mem_cons_of_mem _ (List.mem_append_right _ h)) tyX2 tyX2_ok nmX2 hown hK hw.1 hw.2.1 hw.2.2 24 rfl rfl 2 (by decide) (hts (.fieldLink RX2 18 "EggThrones$Clues" "count" "I") (List.mem_of_getElem? (i := 1) rfl)) (fun _ h9 => h9) rfl (by decide +kernel) rfl rfl (Nat.le_of_ble_eq_true rfl) dX2_add_45 (fun H locs hP hD hS => ?_)
      have hw : Wd D A s (wE q cI cZ (sI σ37 24 ((σ37.1 24) + 1))) H locs := wdiE_24 hP hD hS
      obtain ⟨σ45, e45, hf⟩ := nm_s hf
      replace hf := bt_s hf
      rw [← e45] at hw
      refine lv_iconst (v := zI 1) hx hb dX2_add_48 rfl ?_
      cases hf
      exact hret H locs ls 49 dX2_add_49 (by decide +kernel) hw
    · rw [if_neg c13] at hf
      refine lv_iconst (v := zI 0) hx hb dX2_add_16 rfl ?_
      cases hf
      exact hret H locs ls 17 dX2_add_17 (by decide +kernel) hw
set_option maxHeartbeats 4000000 in
set_option maxRecDepth 100000 in
theorem tX2_add {l : Launch} {D : va_G} {A : Nat → Prop} {cI cZ : ClassId} {q : Nat → Nat} {σ : St} {x1 : Int} {x2 : Int} {r : Int} {τ : St} (hf : pX2_add σ x1 x2 = some (r, τ)) : Met l yX2_add wsX2_add rmX2_add (va_Pc [.ref (q 24), .int (zI x1), .int (zI x2)] (CX D (TY cI cZ) A (wE q cI cZ σ))) (QI D (TY cI cZ) A (wE q cI cZ τ) (zI r)) 0 0 A := by
  refine opn (cc := cX2_add) (maxL := 3) (ret := (some .boolean)) (by decide) rfl (Nat.le_of_ble_eq_true rfl) (fun p e s m below meth c C ls hw hl => ?_)
  have hl : lv_has ls 3 [(0, .ref (q 24)), (1, .int (zI x1)), (2, .int (zI x2))] := hl
  rw [pX2_add] at hf
  exact wX2_add_0 C (rtZ C) σ x1 x2 _ _ ls hw (lv_sub hl [0, 1, 2] rfl) hf
abbrev rmX10_see : Room := { frames := 1, cells := 0, slots := 0, locals := 22 }
set_option maxHeartbeats 4000000 in
set_option maxRecDepth 100000 in
theorem wX10_see_0 {p : Program} {l : Launch} {e : Env} {s : State} {m : MethodId} {args : Array Value} {below : List Frame} {meth : Method} {c : Code} {D : va_G} {A : Nat → Prop} {q : Nat → Nat} {cI cZ : ClassId} {Q : State → Prop} {r : Int} {τ : St} (C : Cx p s m args meth c D (TY cI cZ) cX10_see (some .int) 3 wsX10_see RX10) (hret : RtI p l e rmX10_see s m args below meth c D A cX10_see Q (wE q cI cZ τ) (zI r)) :
    ∀ (σ : St) (x1 : Int) (x2 : Int) (H : Heap) (locs : List Loc) (ls : Array Slot), Wd D A s (wE q cI cZ σ) H locs → lv_has ls 3 [(0, .ref (q 0)), (1, .int (zI x1)), (2, .int (zI x2))] → pX10_see_0 σ x1 x2 = some (r, τ) → W p l e rmX10_see s m args below meth c H locs 0 0 Q (F0 m 0 ls []) := by
  obtain ⟨hx, hb, hr, hml, hown, hts, hlk, hK, hN⟩ := id C
  intro σ x1 x2 H locs ls hw hl hf
  rw [pX10_see_0] at hf
  refine lv_iload_n hx hb dX10_see_0 rfl (lv_at hl 1 rfl) ?_
  refine lv_iconst (v := zI 1) hx hb dX10_see_1 rfl ?_
  refine lv_bipush (v := zI 9) hx hb dX10_see_2 (by decide +kernel) ?_
  obtain ⟨r4, h4, hf⟩ := bd_s hf
  replace hf := bt_s hf
  refine gSi (As := [.int (zI x1), .int (zI 1), .int (zI 9)]) (rest := []) C hw (tX10_isWithin h4) (va_cwS 3 hts gX10_see_X10_isWithin rfl rfl rfl (by decide +kernel) ⟨Nat.le_of_ble_eq_true rfl, Nat.le_of_ble_eq_true rfl⟩) rfl hl.1 rfl (Nat.le_of_ble_eq_true rfl) dX10_see_4 (fun H locs hw => ?_)
  obtain ⟨hg7, hf⟩ := gd_s hf
  refine zv_if_eq (tgt := 20) hx hb hg7 dX10_see_7 (by decide) (fun (c7 : r4 = 0) => ?_) (fun (c7 : ¬ (r4 = 0)) => ?_)
  · rw [if_pos c7] at hf
    refine zv_ldc hx hb (-1000000002) (by decide +kernel) hown (hts (.constant RX10 95 (-1000000002)) (List.mem_of_getElem? (i := 1) rfl)) dX10_see_20 ?_
    cases hf
    exact hret H locs ls 22 dX10_see_22 hw
  · rw [if_neg c7] at hf
    refine lv_iload_n hx hb dX10_see_10 rfl (lv_at hl 2 rfl) ?_
    refine lv_iconst (v := zI 0) hx hb dX10_see_11 rfl ?_
    refine lv_bipush (v := zI 30) hx hb dX10_see_12 (by decide +kernel) ?_
    obtain ⟨r14, h14, hf⟩ := bd_s hf
    replace hf := bt_s hf
    refine gSi (As := [.int (zI x2), .int (zI 0), .int (zI 30)]) (rest := []) C hw (tX10_isWithin h14) (va_cwS 3 hts gX10_see_X10_isWithin rfl rfl rfl (by decide +kernel) ⟨Nat.le_of_ble_eq_true rfl, Nat.le_of_ble_eq_true rfl⟩) rfl hl.1 rfl (Nat.le_of_ble_eq_true rfl) dX10_see_14 (fun H locs hw => ?_)
    obtain ⟨hg17, hf⟩ := gd_s hf
    refine zv_if_ne (tgt := 23) hx hb hg17 dX10_see_17 (by decide) (fun (c17 : ¬ (r14 = 0)) => ?_) (fun (c17 : r14 = 0) => ?_)
    · rw [if_neg c17] at hf
      refine lv_aload_n hx hb dX10_see_23 rfl (lv_at hl 0 rfl) ?_
      refine va_get (D := D) (ci := 10) (v := .ref (q 24)) (C := RX10) (T := TX10) (N := 13) hx hb hts (fun _ h => List.mem_cons_of_mem _ (List.mem_append_left _ (List.mem_append_right _ h))) hown hK hw.1 0 rfl rfl 6 (by decide) (hts (.fieldLink RX10 52 "EggThrones" "clues" "LEggThrones$Clues;") (List.mem_of_getElem? (i := 2) rfl)) (fun _ h9 => h9) rfl dX10_see_24 ?_
      refine lv_iload_n hx hb dX10_see_27 rfl (lv_at hl 1 rfl) ?_
      refine lv_iload_n hx hb dX10_see_28 rfl (lv_at hl 2 rfl) ?_
      obtain ⟨⟨r29, σ29⟩, h29, hf⟩ := bd_s hf
      have hf := hf2_s hf
      refine gVi (As := [.int (zI x1), .int (zI x2)]) (rest := []) C hw (tX2_add h29) (cwV 2 hts gX10_see_X2_add rfl rfl rfl (by decide +kernel) ⟨Nat.le_of_ble_eq_true rfl, Nat.le_of_ble_eq_true rfl⟩) 2 24 rfl rfl rfl hl.1 rfl (Nat.le_of_ble_eq_true rfl) dX10_see_29 (fun H locs hw => ?_)
      obtain ⟨hg32, hf⟩ := gd_s hf
      refine zv_if_eq (tgt := 45) hx hb hg32 dX10_see_32 (by decide) (fun (c32 : r29 = 0) => ?_) (fun (c32 : ¬ (r29 = 0)) => ?_)
      · rw [if_pos c32] at hf
        refine zv_ldc hx hb (-1000000004) (by decide +kernel) hown (hts (.constant RX10 104 (-1000000004)) (List.mem_of_getElem? (i := 3) rfl)) dX10_see_45 ?_
        cases hf
        exact hret H locs ls 47 dX10_see_47 hw
      · rw [if_neg c32] at hf
        refine lv_aload_n hx hb dX10_see_35 rfl (lv_at hl 0 rfl) ?_
        refine va_get (D := D) (ci := 10) (v := .ref (q 24)) (C := RX10) (T := TX10) (N := 13) hx hb hts (fun _ h => List.mem_cons_of_mem _ (List.mem_append_left _ (List.mem_append_right _ h))) hown hK hw.1 0 rfl rfl 6 (by decide) (hts (.fieldLink RX10 52 "EggThrones" "clues" "LEggThrones$Clues;") (List.mem_of_getElem? (i := 2) rfl)) (fun _ h9 => h9) rfl dX10_see_36 ?_
        refine va_getN (D := D) (ci := 2) (v := .int (zI (σ29.1 24))) (C := RX2) (T := TX2) (N := 3) hx hb hts (fun _ h => List.mem_cons_of_mem _ (List.mem_append_right _ h)) hown hK hw.1 24 rfl rfl 2 (by decide) (va_Nw.use rfl (hN (.fieldLinkNest "EggThrones" 167 "EggThrones$Clues" "count" "I" "EggThrones") (by decide +kernel))) (fun _ h9 => h9) rfl dX10_see_39 ?_
        refine lv_goto (tgt := 47) hx hb dX10_see_42 (by decide) ?_
        cases hf
        exact hret H locs ls 47 dX10_see_47 hw
    · rw [if_pos c17] at hf
      refine zv_ldc hx hb (-1000000002) (by decide +kernel) hown (hts (.constant RX10 95 (-1000000002)) (List.mem_of_getElem? (i := 1) rfl)) dX10_see_20 ?_
      cases hf
      exact hret H locs ls 22 dX10_see_22 hw
set_option maxHeartbeats 4000000 in
set_option maxRecDepth 100000 in
theorem tX10_see {l : Launch} {D : va_G} {A : Nat → Prop} {cI cZ : ClassId} {q : Nat → Nat} {σ : St} {x1 : Int} {x2 : Int} {r : Int} {τ : St} (hf : pX10_see σ x1 x2 = some (r, τ)) : Met l yX10_see wsX10_see rmX10_see (va_Pc [.ref (q 0), .int (zI x1), .int (zI x2)] (CX D (TY cI cZ) A (wE q cI cZ σ))) (QI D (TY cI cZ) A (wE q cI cZ τ) (zI r)) 0 0 A := by
  refine opn (cc := cX10_see) (maxL := 3) (ret := (some .int)) (by decide) rfl (Nat.le_of_ble_eq_true rfl) (fun p e s m below meth c C ls hw hl => ?_)
  have hl : lv_has ls 3 [(0, .ref (q 0)), (1, .int (zI x1)), (2, .int (zI x2))] := hl
  rw [pX10_see] at hf
  exact wX10_see_0 C (rtI C) σ x1 x2 _ _ ls hw (lv_sub hl [0, 1, 2] rfl) hf
abbrev rmX11_see : Room := { frames := 1, cells := 0, slots := 0, locals := 25 }
set_option maxHeartbeats 4000000 in
set_option maxRecDepth 100000 in
theorem wX11_see_0 {p : Program} {l : Launch} {e : Env} {s : State} {m : MethodId} {args : Array Value} {below : List Frame} {meth : Method} {c : Code} {D : va_G} {A : Nat → Prop} {q : Nat → Nat} {cI cZ : ClassId} {Q : State → Prop} {r : Int} {τ : St} (C : Cx p s m args meth c D (TY cI cZ) cX11_see (some .int) 3 wsX11_see RX11) (hret : RtI p l e rmX11_see s m args below meth c D A cX11_see Q (wM q cI cZ τ) (zI r)) :
    ∀ (σ : St) (x1 : Int) (x2 : Int) (H : Heap) (locs : List Loc) (ls : Array Slot), Wd D A s (wM q cI cZ σ) H locs → lv_has ls 3 [(0, .ref (q 0)), (1, .int (zI x1)), (2, .int (zI x2))] → pX11_see_0 σ x1 x2 = some (r, τ) → W p l e rmX11_see s m args below meth c H locs 0 0 Q (F0 m 0 ls []) := by
  obtain ⟨hx, hb, hr, hml, hown, hts, hlk, hK, hN⟩ := id C
  intro σ x1 x2 H locs ls hw hl hf
  rw [pX11_see_0] at hf
  refine lv_iload_n hx hb dX11_see_0 rfl (lv_at hl 1 rfl) ?_
  obtain ⟨hz1, hf⟩ := gd_s hf
  refine zv_i2l hx hb hz1 dX11_see_1 ?_
  refine lv_lconst (v := zL 1) hx hb dX11_see_2 (by decide +kernel) ?_
  refine zv_ldc2 hx hb 9 (by decide +kernel) hown (hts (.constantLong RX11 278 (9)) (List.mem_of_getElem? (i := 1) rfl)) dX11_see_3 ?_
  obtain ⟨r6, h6, hf⟩ := bd_s hf
  replace hf := bt_s hf
  refine gSi (As := [.long (zL x1), .long (zL 1), .long (zL 9)]) (rest := []) C hw (tX11_in h6) (va_cwS 3 hts gX11_see_X11_in rfl rfl rfl (by decide +kernel) ⟨Nat.le_of_ble_eq_true rfl, Nat.le_of_ble_eq_true rfl⟩) rfl hl.1 rfl (Nat.le_of_ble_eq_true rfl) dX11_see_6 (fun H locs hw => ?_)
  obtain ⟨hg9, hf⟩ := gd_s hf
  refine zv_if_eq (tgt := 24) hx hb hg9 dX11_see_9 (by decide) (fun (c9 : r6 = 0) => ?_) (fun (c9 : ¬ (r6 = 0)) => ?_)
  · rw [if_pos c9] at hf
    refine zv_ldc hx hb (-1000000002) (by decide +kernel) hown (hts (.constant RX11 105 (-1000000002)) (List.mem_of_getElem? (i := 3) rfl)) dX11_see_24 ?_
    cases hf
    exact hret H locs ls 26 dX11_see_26 hw
  · rw [if_neg c9] at hf
    refine lv_iload_n hx hb dX11_see_12 rfl (lv_at hl 2 rfl) ?_
    obtain ⟨hz13, hf⟩ := gd_s hf
    refine zv_i2l hx hb hz13 dX11_see_13 ?_
    refine lv_lconst (v := zL 0) hx hb dX11_see_14 (by decide +kernel) ?_
    refine zv_ldc2 hx hb 30 (by decide +kernel) hown (hts (.constantLong RX11 280 (30)) (List.mem_of_getElem? (i := 2) rfl)) dX11_see_15 ?_
    obtain ⟨r18, h18, hf⟩ := bd_s hf
    replace hf := bt_s hf
    refine gSi (As := [.long (zL x2), .long (zL 0), .long (zL 30)]) (rest := []) C hw (tX11_in h18) (va_cwS 3 hts gX11_see_X11_in rfl rfl rfl (by decide +kernel) ⟨Nat.le_of_ble_eq_true rfl, Nat.le_of_ble_eq_true rfl⟩) rfl hl.1 rfl (Nat.le_of_ble_eq_true rfl) dX11_see_18 (fun H locs hw => ?_)
    obtain ⟨hg21, hf⟩ := gd_s hf
    refine zv_if_ne (tgt := 27) hx hb hg21 dX11_see_21 (by decide) (fun (c21 : ¬ (r18 = 0)) => ?_) (fun (c21 : r18 = 0) => ?_)
    · rw [if_neg c21] at hf
      refine lv_aload_n hx hb dX11_see_27 rfl (lv_at hl 0 rfl) ?_
      refine va_get (D := D) (ci := 11) (v := .int (zI (σ.1 13))) (C := RX11) (T := TX11) (N := 40) hx hb hts (fun _ h => List.mem_cons_of_mem _ (List.mem_append_right _ h)) hown hK hw.1 0 rfl rfl 31 (by decide) (hts (.fieldLink RX11 162 "EggThronesModel" "seen" "I") (List.mem_of_getElem? (i := 4) rfl)) (fun _ h9 => h9) rfl dX11_see_28 ?_
      refine lv_bipush (v := zI 6) hx hb dX11_see_31 (by decide +kernel) ?_
      obtain ⟨hg33, hf⟩ := gd_s hf
      refine zv_icmp_ne (tgt := 39) hx hb ⟨hg33, by decide⟩ dX11_see_33 (by decide) (fun (c33 : ¬ ((σ.1 13) = 6)) => ?_) (fun (c33 : (σ.1 13) = 6) => ?_)
      · rw [if_neg c33] at hf
        refine lv_aload_n hx hb dX11_see_39 rfl (lv_at hl 0 rfl) ?_
        refine va_get (D := D) (ci := 11) (v := .ref (q 19)) (C := RX11) (T := TX11) (N := 40) hx hb hts (fun _ h => List.mem_cons_of_mem _ (List.mem_append_right _ h)) hown hK hw.1 0 rfl rfl 32 (by decide) (hts (.fieldLink RX11 68 "EggThronesModel" "seenBy" "[I") (List.mem_of_getElem? (i := 6) rfl)) (fun _ h9 => h9) rfl dX11_see_40 ?_
        refine lv_aload_n hx hb dX11_see_43 rfl (lv_at hl 0 rfl) ?_
        refine va_get (D := D) (ci := 11) (v := .int (zI (σ.1 13))) (C := RX11) (T := TX11) (N := 40) hx hb hts (fun _ h => List.mem_cons_of_mem _ (List.mem_append_right _ h)) hown hK hw.1 0 rfl rfl 31 (by decide) (hts (.fieldLink RX11 162 "EggThronesModel" "seen" "I") (List.mem_of_getElem? (i := 4) rfl)) (fun _ h9 => h9) rfl dX11_see_44 ?_
        refine lv_iload_n hx hb dX11_see_47 rfl (lv_at hl 1 rfl) ?_
        obtain ⟨hi48, hf⟩ := gd_s hf
        refine zv_iast (D := D) hx hb hK hw.1 hw.2.1 hw.2.2 19 0 rfl rfl hi48 (by decide) dX11_see_48 (fun H locs hP hD hS => ?_)
        have hw : Wd D A s (wM q cI cZ (sA σ 18 (va_up (σ.2 18) (Int.toNat (σ.1 13)) x1))) H locs := wdaM_18 hP hD hS
        obtain ⟨σ48, e48, hf⟩ := nm_s hf
        replace hf := bt_s hf
        rw [← e48] at hw
        refine lv_aload_n hx hb dX11_see_49 rfl (lv_at hl 0 rfl) ?_
        refine va_get (D := D) (ci := 11) (v := .ref (q 20)) (C := RX11) (T := TX11) (N := 40) hx hb hts (fun _ h => List.mem_cons_of_mem _ (List.mem_append_right _ h)) hown hK hw.1 0 rfl rfl 33 (by decide) (hts (.fieldLink RX11 71 "EggThronesModel" "seenIs" "[I") (List.mem_of_getElem? (i := 7) rfl)) (fun _ h9 => h9) rfl dX11_see_50 ?_
        refine lv_aload_n hx hb dX11_see_53 rfl (lv_at hl 0 rfl) ?_
        refine va_get (D := D) (ci := 11) (v := .int (zI (σ48.1 13))) (C := RX11) (T := TX11) (N := 40) hx hb hts (fun _ h => List.mem_cons_of_mem _ (List.mem_append_right _ h)) hown hK hw.1 0 rfl rfl 31 (by decide) (hts (.fieldLink RX11 162 "EggThronesModel" "seen" "I") (List.mem_of_getElem? (i := 4) rfl)) (fun _ h9 => h9) rfl dX11_see_54 ?_
        refine lv_iload_n hx hb dX11_see_57 rfl (lv_at hl 2 rfl) ?_
        obtain ⟨hi58, hf⟩ := gd_s hf
        refine zv_iast (D := D) hx hb hK hw.1 hw.2.1 hw.2.2 20 0 rfl rfl hi58 (by decide) dX11_see_58 (fun H locs hP hD hS => ?_)
        have hw : Wd D A s (wM q cI cZ (sA σ48 19 (va_up (σ48.2 19) (Int.toNat (σ48.1 13)) x2))) H locs := wdaM_19 hP hD hS
        obtain ⟨σ58, e58, hf⟩ := nm_s hf
        replace hf := bt_s hf
        rw [← e58] at hw
        refine lv_aload_n hx hb dX11_see_59 rfl (lv_at hl 0 rfl) ?_
        refine lv_dup hx hb dX11_see_60 rfl ?_
        refine va_get (D := D) (ci := 11) (v := .int (zI (σ58.1 13))) (C := RX11) (T := TX11) (N := 40) hx hb hts (fun _ h => List.mem_cons_of_mem _ (List.mem_append_right _ h)) hown hK hw.1 0 rfl rfl 31 (by decide) (hts (.fieldLink RX11 162 "EggThronesModel" "seen" "I") (List.mem_of_getElem? (i := 4) rfl)) (fun _ h9 => h9) rfl dX11_see_61 ?_
        refine lv_iconst (v := zI 1) hx hb dX11_see_64 rfl ?_
        refine zv_iadd hx hb dX11_see_65 ?_
        refine va_put (D := D) (ci := 11) (v := .int (zI ((σ58.1 13) + 1))) (ty := .int) (C := RX11) (T := TX11) (N := 40) hx hb hts (fun _ h => List.mem_cons_of_mem _ (List.mem_append_right _ h)) tyX11 tyX11_ok nmX11 hown hK hw.1 hw.2.1 hw.2.2 0 rfl rfl 31 (by decide) (hts (.fieldLink RX11 162 "EggThronesModel" "seen" "I") (List.mem_of_getElem? (i := 4) rfl)) (fun _ h9 => h9) rfl (by decide +kernel) rfl rfl (Nat.le_of_ble_eq_true rfl) dX11_see_66 (fun H locs hP hD hS => ?_)
        have hw : Wd D A s (wM q cI cZ (sI σ58 13 ((σ58.1 13) + 1))) H locs := wdiM_13 hP hD hS
        obtain ⟨σ66, e66, hf⟩ := nm_s hf
        replace hf := bt_s hf
        rw [← e66] at hw
        refine lv_aload_n hx hb dX11_see_69 rfl (lv_at hl 0 rfl) ?_
        refine va_get (D := D) (ci := 11) (v := .int (zI (σ66.1 13))) (C := RX11) (T := TX11) (N := 40) hx hb hts (fun _ h => List.mem_cons_of_mem _ (List.mem_append_right _ h)) hown hK hw.1 0 rfl rfl 31 (by decide) (hts (.fieldLink RX11 162 "EggThronesModel" "seen" "I") (List.mem_of_getElem? (i := 4) rfl)) (fun _ h9 => h9) rfl dX11_see_70 ?_
        cases hf
        exact hret H locs ls 73 dX11_see_73 hw
      · rw [if_pos c33] at hf
        refine zv_ldc hx hb (-1000000004) (by decide +kernel) hown (hts (.constant RX11 109 (-1000000004)) (List.mem_of_getElem? (i := 5) rfl)) dX11_see_36 ?_
        cases hf
        exact hret H locs ls 38 dX11_see_38 hw
    · rw [if_pos c21] at hf
      refine zv_ldc hx hb (-1000000002) (by decide +kernel) hown (hts (.constant RX11 105 (-1000000002)) (List.mem_of_getElem? (i := 3) rfl)) dX11_see_24 ?_
      cases hf
      exact hret H locs ls 26 dX11_see_26 hw
set_option maxHeartbeats 4000000 in
set_option maxRecDepth 100000 in
theorem tX11_see {l : Launch} {D : va_G} {A : Nat → Prop} {cI cZ : ClassId} {q : Nat → Nat} {σ : St} {x1 : Int} {x2 : Int} {r : Int} {τ : St} (hf : pX11_see σ x1 x2 = some (r, τ)) : Met l yX11_see wsX11_see rmX11_see (va_Pc [.ref (q 0), .int (zI x1), .int (zI x2)] (CX D (TY cI cZ) A (wM q cI cZ σ))) (QI D (TY cI cZ) A (wM q cI cZ τ) (zI r)) 0 0 A := by
  refine opn (cc := cX11_see) (maxL := 3) (ret := (some .int)) (by decide) rfl (Nat.le_of_ble_eq_true rfl) (fun p e s m below meth c C ls hw hl => ?_)
  have hl : lv_has ls 3 [(0, .ref (q 0)), (1, .int (zI x1)), (2, .int (zI x2))] := hl
  rw [pX11_see] at hf
  exact wX11_see_0 C (rtI C) σ x1 x2 _ _ ls hw (lv_sub hl [0, 1, 2] rfl) hf
abbrev rmX2_fits : Room := { frames := 0, cells := 0, slots := 0, locals := 0 }
set_option maxHeartbeats 4000000 in
set_option maxRecDepth 100000 in
theorem wX2_fits_2 {p : Program} {l : Launch} {e : Env} {s : State} {m : MethodId} {args : Array Value} {below : List Frame} {meth : Method} {c : Code} {D : va_G} {A : Nat → Prop} {q : Nat → Nat} {cI cZ : ClassId} {Q : State → Prop} {σ : St} {r : Int} (C : Cx p s m args meth c D (TY cI cZ) cX2_fits (some .boolean) 3 wsX2_fits RX2) (hret : RtZ p l e rmX2_fits s m args below meth c D A cX2_fits Q (wE q cI cZ σ) (zI r)) :
    ∀ (n : Nat) (x1 : Int) (x2 : Int) (H : Heap) (locs : List Loc) (ls : Array Slot), Wd D A s (wE q cI cZ σ) H locs → lv_has ls 3 [(0, .ref (q 24)), (1, .int (zI x1)), (2, .int (zI x2))] → pX2_fits_2 σ n x1 x2 = some r → W p l e rmX2_fits s m args below meth c H locs 0 0 Q (F0 m 2 ls []) := by
  obtain ⟨hx, hb, hr, hml, hown, hts, hlk, hK, hN⟩ := id C
  intro n
  induction n with
  | zero =>
    intro x1 x2 H locs ls hw hl hf
    exact absurd (show (none : Option (Int)) = some r from hf) (by simp)
  | succ n ih =>
    intro x1 x2 H locs ls hw hl hf
    rw [pX2_fits_2] at hf
    refine lv_iload_n hx hb dX2_fits_2 rfl (lv_at hl 2 rfl) ?_
    refine lv_aload_n hx hb dX2_fits_3 rfl (lv_at hl 0 rfl) ?_
    refine va_get (D := D) (ci := 2) (v := .int (zI (σ.1 24))) (C := RX2) (T := TX2) (N := 3) hx hb hts (fun _ h => List.mem_cons_of_mem _ (List.mem_append_right _ h)) hown hK hw.1 24 rfl rfl 2 (by decide) (hts (.fieldLink RX2 18 "EggThrones$Clues" "count" "I") (List.mem_of_getElem? (i := 1) rfl)) (fun _ h9 => h9) rfl dX2_fits_4 ?_
    obtain ⟨hg7, hf⟩ := gd_s hf
    refine zv_icmp_ge (tgt := 50) hx hb hg7 dX2_fits_7 (by decide) (fun (c7 : (σ.1 24) ≤ x2) => ?_) (fun (c7 : ¬ ((σ.1 24) ≤ x2)) => ?_)
    · rw [if_pos c7] at hf
      refine lv_iconst (v := zI 1) hx hb dX2_fits_50 rfl ?_
      cases hf
      exact hret H locs ls 51 dX2_fits_51 (by decide +kernel) hw
    · rw [if_neg c7] at hf
      refine lv_iload_n hx hb dX2_fits_10 rfl (lv_at hl 2 rfl) ?_
      refine lv_bipush (v := zI 6) hx hb dX2_fits_11 (by decide +kernel) ?_
      obtain ⟨hg13, hf⟩ := gd_s hf
      refine zv_icmp_ge (tgt := 50) hx hb ⟨hg13, by decide⟩ dX2_fits_13 (by decide) (fun (c13 : 6 ≤ x2) => ?_) (fun (c13 : ¬ (6 ≤ x2)) => ?_)
      · rw [if_pos c13] at hf
        refine lv_iconst (v := zI 1) hx hb dX2_fits_50 rfl ?_
        cases hf
        exact hret H locs ls 51 dX2_fits_51 (by decide +kernel) hw
      · rw [if_neg c13] at hf
        refine lv_aload_n hx hb dX2_fits_16 rfl (lv_at hl 0 rfl) ?_
        refine va_get (D := D) (ci := 2) (v := .ref (q 25)) (C := RX2) (T := TX2) (N := 3) hx hb hts (fun _ h => List.mem_cons_of_mem _ (List.mem_append_right _ h)) hown hK hw.1 24 rfl rfl 0 (by decide) (hts (.fieldLink RX2 9 "EggThrones$Clues" "tests" "[I") (List.mem_of_getElem? (i := 2) rfl)) (fun _ h9 => h9) rfl dX2_fits_17 ?_
        refine lv_iload_n hx hb dX2_fits_20 rfl (lv_at hl 2 rfl) ?_
        obtain ⟨hi21, hf⟩ := gd_s hf
        refine zv_iald (D := D) hx hb hK hw.1 25 0 rfl rfl hi21 (by decide) dX2_fits_21 ?_
        obtain ⟨hg22, hf⟩ := gd_s hf
        refine zv_if_le (tgt := 42) hx hb hg22 dX2_fits_22 (by decide) (fun (c22 : (σ.2 17 (Int.toNat x2)) ≤ 0) => ?_) (fun (c22 : ¬ ((σ.2 17 (Int.toNat x2)) ≤ 0)) => ?_)
        · rw [if_pos c22] at hf
          refine lv_iconst (v := zI 0) hx hb dX2_fits_42 rfl ?_
          cases hf
          exact hret H locs ls 43 dX2_fits_43 (by decide +kernel) hw
        · rw [if_neg c22] at hf
          refine lv_iload_n hx hb dX2_fits_25 rfl (lv_at hl 1 rfl) ?_
          refine lv_aload_n hx hb dX2_fits_26 rfl (lv_at hl 0 rfl) ?_
          refine va_get (D := D) (ci := 2) (v := .ref (q 25)) (C := RX2) (T := TX2) (N := 3) hx hb hts (fun _ h => List.mem_cons_of_mem _ (List.mem_append_right _ h)) hown hK hw.1 24 rfl rfl 0 (by decide) (hts (.fieldLink RX2 9 "EggThrones$Clues" "tests" "[I") (List.mem_of_getElem? (i := 2) rfl)) (fun _ h9 => h9) rfl dX2_fits_27 ?_
          refine lv_iload_n hx hb dX2_fits_30 rfl (lv_at hl 2 rfl) ?_
          obtain ⟨hi31, hf⟩ := gd_s hf
          refine zv_iald (D := D) hx hb hK hw.1 25 0 rfl rfl hi31 (by decide) dX2_fits_31 ?_
          obtain ⟨hz32, hf⟩ := gd_s hf
          refine zv_idiv hx hb hz32 dX2_fits_32 ?_
          refine lv_aload_n hx hb dX2_fits_33 rfl (lv_at hl 0 rfl) ?_
          refine va_get (D := D) (ci := 2) (v := .ref (q 26)) (C := RX2) (T := TX2) (N := 3) hx hb hts (fun _ h => List.mem_cons_of_mem _ (List.mem_append_right _ h)) hown hK hw.1 24 rfl rfl 1 (by decide) (hts (.fieldLink RX2 15 "EggThrones$Clues" "answers" "[I") (List.mem_of_getElem? (i := 3) rfl)) (fun _ h9 => h9) rfl dX2_fits_34 ?_
          refine lv_iload_n hx hb dX2_fits_37 rfl (lv_at hl 2 rfl) ?_
          obtain ⟨hi38, hf⟩ := gd_s hf
          refine zv_iald (D := D) hx hb hK hw.1 26 0 rfl rfl hi38 (by decide) dX2_fits_38 ?_
          obtain ⟨hg39, hf⟩ := gd_s hf
          refine zv_icmp_eq (tgt := 44) hx hb hg39 dX2_fits_39 (by decide) (fun (c39 : (x1 / (σ.2 17 (Int.toNat x2))) = (σ.2 18 (Int.toNat x2))) => ?_) (fun (c39 : ¬ ((x1 / (σ.2 17 (Int.toNat x2))) = (σ.2 18 (Int.toNat x2)))) => ?_)
          · rw [if_pos c39] at hf
            refine lv_iinc (v := zI (x2 + 1)) (lv' := [(2, .int (zI (x2 + 1))), (0, .ref (q 24)), (1, .int (zI x1))]) hx hb dX2_fits_44 hl (k := 2) rfl (zI_add _ _) (by decide) rfl (fun ls hl => ?_)
            refine lv_goto (tgt := 2) hx hb dX2_fits_47 (by decide) ?_
            exact ih x1 (x2 + 1) H locs ls hw (lv_sub hl [1, 2, 0] rfl) hf
          · rw [if_neg c39] at hf
            refine lv_iconst (v := zI 0) hx hb dX2_fits_42 rfl ?_
            cases hf
            exact hret H locs ls 43 dX2_fits_43 (by decide +kernel) hw
set_option maxHeartbeats 4000000 in
set_option maxRecDepth 100000 in
theorem wX2_fits_0 {p : Program} {l : Launch} {e : Env} {s : State} {m : MethodId} {args : Array Value} {below : List Frame} {meth : Method} {c : Code} {D : va_G} {A : Nat → Prop} {q : Nat → Nat} {cI cZ : ClassId} {Q : State → Prop} {σ : St} {r : Int} (C : Cx p s m args meth c D (TY cI cZ) cX2_fits (some .boolean) 3 wsX2_fits RX2) (hret : RtZ p l e rmX2_fits s m args below meth c D A cX2_fits Q (wE q cI cZ σ) (zI r)) :
    ∀ (x1 : Int) (H : Heap) (locs : List Loc) (ls : Array Slot), Wd D A s (wE q cI cZ σ) H locs → lv_has ls 3 [(0, .ref (q 24)), (1, .int (zI x1))] → pX2_fits_0 σ x1 = some r → W p l e rmX2_fits s m args below meth c H locs 0 0 Q (F0 m 0 ls []) := by
  obtain ⟨hx, hb, hr, hml, hown, hts, hlk, hK, hN⟩ := id C
  intro x1 H locs ls hw hl hf
  rw [pX2_fits_0] at hf
  refine lv_iconst (v := zI 0) hx hb dX2_fits_0 rfl ?_
  refine lv_istore_n (lv' := [(2, .int (zI 0)), (0, .ref (q 24)), (1, .int (zI x1))]) hx hb dX2_fits_1 rfl hl (by decide) rfl (fun ls hl => ?_)
  exact wX2_fits_2 C hret FU x1 0 H locs ls hw (lv_sub hl [1, 2, 0] rfl) hf
set_option maxHeartbeats 4000000 in
set_option maxRecDepth 100000 in
theorem tX2_fits {l : Launch} {D : va_G} {A : Nat → Prop} {cI cZ : ClassId} {q : Nat → Nat} {σ : St} {x1 : Int} {r : Int} (hf : pX2_fits σ x1 = some r) : Met l yX2_fits wsX2_fits rmX2_fits (va_Pc [.ref (q 24), .int (zI x1)] (CX D (TY cI cZ) A (wE q cI cZ σ))) (QI D (TY cI cZ) A (wE q cI cZ σ) (zI r)) 0 0 A := by
  refine opn (cc := cX2_fits) (maxL := 3) (ret := (some .boolean)) (by decide) rfl (Nat.le_of_ble_eq_true rfl) (fun p e s m below meth c C ls hw hl => ?_)
  have hl : lv_has ls 3 [(0, .ref (q 24)), (1, .int (zI x1))] := hl
  rw [pX2_fits] at hf
  exact wX2_fits_0 C (rtZ C) x1 _ _ ls hw (lv_sub hl [0, 1] rfl) hf
abbrev rmX2_fittingAges : Room := { frames := 1, cells := 0, slots := 0, locals := 22 }
set_option maxHeartbeats 4000000 in
set_option maxRecDepth 100000 in
theorem wX2_fittingAges_26 {p : Program} {l : Launch} {e : Env} {s : State} {m : MethodId} {args : Array Value} {below : List Frame} {meth : Method} {c : Code} {D : va_G} {A : Nat → Prop} {q : Nat → Nat} {cI cZ : ClassId} {Q : State → Prop} {σ : St} {r : Int} (C : Cx p s m args meth c D (TY cI cZ) cX2_fittingAges (some .int) 3 wsX2_fittingAges RX2) (hret : RtI p l e rmX2_fittingAges s m args below meth c D A cX2_fittingAges Q (wE q cI cZ σ) (zI r)) (k4 : Int → Int → Option (Int)) (hk4 : ∀ (x1 : Int) (x2 : Int) (H : Heap) (locs : List Loc) (ls : Array Slot), Wd D A s (wE q cI cZ σ) H locs → lv_has ls 3 [(0, .ref (q 24)), (1, .int (zI x1)), (2, .int (zI x2))] → k4 x1 x2 = some r → W p l e rmX2_fittingAges s m args below meth c H locs 0 0 Q (F0 m 4 ls [])) :
    ∀ (x2 : Int) (t0 : Int) (t1 : Int) (H : Heap) (locs : List Loc) (ls : Array Slot), Wd D A s (wE q cI cZ σ) H locs → lv_has ls 3 [(0, .ref (q 24)), (2, .int (zI x2))] → pX2_fittingAges_26 k4 σ x2 t0 t1 = some r → W p l e rmX2_fittingAges s m args below meth c H locs 0 0 Q (F0 m 26 ls [.int (zI t1), .int (zI t0)]) := by
  obtain ⟨hx, hb, hr, hml, hown, hts, hlk, hK, hN⟩ := id C
  intro x2 t0 t1 H locs ls hw hl hf
  rw [pX2_fittingAges_26] at hf
  refine zv_ior hx hb dX2_fittingAges_26 ?_
  refine lv_istore_n (lv' := [(1, .int (zI (zOr t0 t1))), (0, .ref (q 24)), (2, .int (zI x2))]) hx hb dX2_fittingAges_27 rfl hl (by decide) rfl (fun ls hl => ?_)
  refine lv_iinc (v := zI (x2 + 1)) (lv' := [(2, .int (zI (x2 + 1))), (1, .int (zI (zOr t0 t1))), (0, .ref (q 24))]) hx hb dX2_fittingAges_28 hl (k := 2) rfl (zI_add _ _) (by decide) rfl (fun ls hl => ?_)
  refine lv_goto (tgt := 4) hx hb dX2_fittingAges_31 (by decide) ?_
  exact hk4 (zOr t0 t1) (x2 + 1) H locs ls hw (lv_sub hl [2, 1, 0] rfl) hf
set_option maxHeartbeats 4000000 in
set_option maxRecDepth 100000 in
theorem wX2_fittingAges_4 {p : Program} {l : Launch} {e : Env} {s : State} {m : MethodId} {args : Array Value} {below : List Frame} {meth : Method} {c : Code} {D : va_G} {A : Nat → Prop} {q : Nat → Nat} {cI cZ : ClassId} {Q : State → Prop} {σ : St} {r : Int} (C : Cx p s m args meth c D (TY cI cZ) cX2_fittingAges (some .int) 3 wsX2_fittingAges RX2) (hret : RtI p l e rmX2_fittingAges s m args below meth c D A cX2_fittingAges Q (wE q cI cZ σ) (zI r)) :
    ∀ (n : Nat) (x1 : Int) (x2 : Int) (H : Heap) (locs : List Loc) (ls : Array Slot), Wd D A s (wE q cI cZ σ) H locs → lv_has ls 3 [(0, .ref (q 24)), (1, .int (zI x1)), (2, .int (zI x2))] → pX2_fittingAges_4 σ n x1 x2 = some r → W p l e rmX2_fittingAges s m args below meth c H locs 0 0 Q (F0 m 4 ls []) := by
  obtain ⟨hx, hb, hr, hml, hown, hts, hlk, hK, hN⟩ := id C
  intro n
  induction n with
  | zero =>
    intro x1 x2 H locs ls hw hl hf
    exact absurd (show (none : Option (Int)) = some r from hf) (by simp)
  | succ n ih =>
    intro x1 x2 H locs ls hw hl hf
    rw [pX2_fittingAges_4] at hf
    refine lv_iload_n hx hb dX2_fittingAges_4 rfl (lv_at hl 2 rfl) ?_
    refine lv_bipush (v := zI 30) hx hb dX2_fittingAges_5 (by decide +kernel) ?_
    obtain ⟨hg7, hf⟩ := gd_s hf
    refine zv_icmp_gt (tgt := 34) hx hb ⟨hg7, by decide⟩ dX2_fittingAges_7 (by decide) (fun (c7 : 30 < x2) => ?_) (fun (c7 : ¬ (30 < x2)) => ?_)
    · rw [if_pos c7] at hf
      refine lv_iload_n hx hb dX2_fittingAges_34 rfl (lv_at hl 1 rfl) ?_
      cases hf
      exact hret H locs ls 35 dX2_fittingAges_35 hw
    · rw [if_neg c7] at hf
      refine lv_iload_n hx hb dX2_fittingAges_10 rfl (lv_at hl 1 rfl) ?_
      refine lv_aload_n hx hb dX2_fittingAges_11 rfl (lv_at hl 0 rfl) ?_
      refine lv_iload_n hx hb dX2_fittingAges_12 rfl (lv_at hl 2 rfl) ?_
      obtain ⟨r13, h13, hf⟩ := bd_s hf
      replace hf := bt_s hf
      refine gVi (As := [.int (zI x2)]) (rest := [.int (zI x1)]) C hw (tX2_fits h13) (cwV 1 hts gX2_fittingAges_X2_fits rfl rfl rfl (by decide +kernel) ⟨Nat.le_of_ble_eq_true rfl, Nat.le_of_ble_eq_true rfl⟩) 2 24 rfl rfl rfl hl.1 rfl (Nat.le_of_ble_eq_true rfl) dX2_fittingAges_13 (fun H locs hw => ?_)
      obtain ⟨hg16, hf⟩ := gd_s hf
      refine zv_if_eq (tgt := 25) hx hb hg16 dX2_fittingAges_16 (by decide) (fun (c16 : r13 = 0) => ?_) (fun (c16 : ¬ (r13 = 0)) => ?_)
      · rw [if_pos c16] at hf
        refine lv_iconst (v := zI 0) hx hb dX2_fittingAges_25 rfl ?_
        exact wX2_fittingAges_26 C hret _ ih x2 x1 0 H locs ls hw (lv_sub hl [0, 2] rfl) hf
      · rw [if_neg c16] at hf
        refine lv_iconst (v := zI 1) hx hb dX2_fittingAges_19 rfl ?_
        refine lv_iload_n hx hb dX2_fittingAges_20 rfl (lv_at hl 2 rfl) ?_
        refine zv_ishl hx hb dX2_fittingAges_21 ?_
        refine lv_goto (tgt := 26) hx hb dX2_fittingAges_22 (by decide) ?_
        exact wX2_fittingAges_26 C hret _ ih x2 x1 (zShl 1 x2) H locs ls hw (lv_sub hl [0, 2] rfl) hf
set_option maxHeartbeats 4000000 in
set_option maxRecDepth 100000 in
theorem wX2_fittingAges_0 {p : Program} {l : Launch} {e : Env} {s : State} {m : MethodId} {args : Array Value} {below : List Frame} {meth : Method} {c : Code} {D : va_G} {A : Nat → Prop} {q : Nat → Nat} {cI cZ : ClassId} {Q : State → Prop} {σ : St} {r : Int} (C : Cx p s m args meth c D (TY cI cZ) cX2_fittingAges (some .int) 3 wsX2_fittingAges RX2) (hret : RtI p l e rmX2_fittingAges s m args below meth c D A cX2_fittingAges Q (wE q cI cZ σ) (zI r)) :
    ∀ (H : Heap) (locs : List Loc) (ls : Array Slot), Wd D A s (wE q cI cZ σ) H locs → lv_has ls 3 [(0, .ref (q 24))] → pX2_fittingAges_0 σ = some r → W p l e rmX2_fittingAges s m args below meth c H locs 0 0 Q (F0 m 0 ls []) := by
  obtain ⟨hx, hb, hr, hml, hown, hts, hlk, hK, hN⟩ := id C
  intro H locs ls hw hl hf
  rw [pX2_fittingAges_0] at hf
  refine lv_iconst (v := zI 0) hx hb dX2_fittingAges_0 rfl ?_
  refine lv_istore_n (lv' := [(1, .int (zI 0)), (0, .ref (q 24))]) hx hb dX2_fittingAges_1 rfl hl (by decide) rfl (fun ls hl => ?_)
  refine lv_iconst (v := zI 0) hx hb dX2_fittingAges_2 rfl ?_
  refine lv_istore_n (lv' := [(2, .int (zI 0)), (1, .int (zI 0)), (0, .ref (q 24))]) hx hb dX2_fittingAges_3 rfl hl (by decide) rfl (fun ls hl => ?_)
  exact wX2_fittingAges_4 C hret FU 0 0 H locs ls hw (lv_sub hl [2, 1, 0] rfl) hf
set_option maxHeartbeats 4000000 in
set_option maxRecDepth 100000 in
theorem tX2_fittingAges {l : Launch} {D : va_G} {A : Nat → Prop} {cI cZ : ClassId} {q : Nat → Nat} {σ : St} {r : Int} (hf : pX2_fittingAges σ = some r) : Met l yX2_fittingAges wsX2_fittingAges rmX2_fittingAges (va_Pc [.ref (q 24)] (CX D (TY cI cZ) A (wE q cI cZ σ))) (QI D (TY cI cZ) A (wE q cI cZ σ) (zI r)) 0 0 A := by
  refine opn (cc := cX2_fittingAges) (maxL := 3) (ret := (some .int)) (by decide) rfl (Nat.le_of_ble_eq_true rfl) (fun p e s m below meth c C ls hw hl => ?_)
  have hl : lv_has ls 3 [(0, .ref (q 24))] := hl
  rw [pX2_fittingAges] at hf
  exact wX2_fittingAges_0 C (rtI C) _ _ ls hw (lv_sub hl [0] rfl) hf
abbrev rmX10_ages : Room := { frames := 2, cells := 0, slots := 0, locals := 44 }
set_option maxHeartbeats 4000000 in
set_option maxRecDepth 100000 in
theorem wX10_ages_0 {p : Program} {l : Launch} {e : Env} {s : State} {m : MethodId} {args : Array Value} {below : List Frame} {meth : Method} {c : Code} {D : va_G} {A : Nat → Prop} {q : Nat → Nat} {cI cZ : ClassId} {Q : State → Prop} {σ : St} {r : Int} (C : Cx p s m args meth c D (TY cI cZ) cX10_ages (some .int) 1 wsX10_ages RX10) (hret : RtI p l e rmX10_ages s m args below meth c D A cX10_ages Q (wE q cI cZ σ) (zI r)) :
    ∀ (H : Heap) (locs : List Loc) (ls : Array Slot), Wd D A s (wE q cI cZ σ) H locs → lv_has ls 1 [(0, .ref (q 0))] → pX10_ages_0 σ = some r → W p l e rmX10_ages s m args below meth c H locs 0 0 Q (F0 m 0 ls []) := by
  obtain ⟨hx, hb, hr, hml, hown, hts, hlk, hK, hN⟩ := id C
  intro H locs ls hw hl hf
  rw [pX10_ages_0] at hf
  refine lv_aload_n hx hb dX10_ages_0 rfl (lv_at hl 0 rfl) ?_
  refine va_get (D := D) (ci := 10) (v := .ref (q 24)) (C := RX10) (T := TX10) (N := 13) hx hb hts (fun _ h => List.mem_cons_of_mem _ (List.mem_append_left _ (List.mem_append_right _ h))) hown hK hw.1 0 rfl rfl 6 (by decide) (hts (.fieldLink RX10 52 "EggThrones" "clues" "LEggThrones$Clues;") (List.mem_of_getElem? (i := 1) rfl)) (fun _ h9 => h9) rfl dX10_ages_1 ?_
  obtain ⟨r4, h4, hf⟩ := bd_s hf
  replace hf := bt_s hf
  refine gVi (As := []) (rest := []) C hw (tX2_fittingAges h4) (cwV 0 hts gX10_ages_X2_fittingAges rfl rfl rfl (by decide +kernel) ⟨Nat.le_of_ble_eq_true rfl, Nat.le_of_ble_eq_true rfl⟩) 2 24 rfl rfl rfl hl.1 rfl (Nat.le_of_ble_eq_true rfl) dX10_ages_4 (fun H locs hw => ?_)
  cases hf
  exact hret H locs ls 7 dX10_ages_7 hw
set_option maxHeartbeats 4000000 in
set_option maxRecDepth 100000 in
theorem tX10_ages {l : Launch} {D : va_G} {A : Nat → Prop} {cI cZ : ClassId} {q : Nat → Nat} {σ : St} {r : Int} (hf : pX10_ages σ = some r) : Met l yX10_ages wsX10_ages rmX10_ages (va_Pc [.ref (q 0)] (CX D (TY cI cZ) A (wE q cI cZ σ))) (QI D (TY cI cZ) A (wE q cI cZ σ) (zI r)) 0 0 A := by
  refine opn (cc := cX10_ages) (maxL := 1) (ret := (some .int)) (by decide) rfl (Nat.le_of_ble_eq_true rfl) (fun p e s m below meth c C ls hw hl => ?_)
  have hl : lv_has ls 1 [(0, .ref (q 0))] := hl
  rw [pX10_ages] at hf
  exact wX10_ages_0 C (rtI C) _ _ ls hw (lv_sub hl [0] rfl) hf
abbrev rmX11_couldBe : Room := { frames := 0, cells := 0, slots := 0, locals := 0 }
set_option maxHeartbeats 4000000 in
set_option maxRecDepth 100000 in
theorem wX11_couldBe_38 {p : Program} {l : Launch} {e : Env} {s : State} {m : MethodId} {args : Array Value} {below : List Frame} {meth : Method} {c : Code} {D : va_G} {A : Nat → Prop} {q : Nat → Nat} {cI cZ : ClassId} {Q : State → Prop} {σ : St} {r : Int} (C : Cx p s m args meth c D (TY cI cZ) cX11_couldBe (some .boolean) 4 wsX11_couldBe RX11) (hret : RtZ p l e rmX11_couldBe s m args below meth c D A cX11_couldBe Q (wM q cI cZ σ) (zI r)) (k4 : Int → Int → Int → Option (Int)) (hk4 : ∀ (x1 : Int) (x2 : Int) (x3 : Int) (H : Heap) (locs : List Loc) (ls : Array Slot), Wd D A s (wM q cI cZ σ) H locs → lv_has ls 4 [(0, .ref (q 0)), (1, .int (zI x1)), (2, .int (zI x2)), (3, .int (zI x3))] → k4 x1 x2 x3 = some r → W p l e rmX11_couldBe s m args below meth c H locs 0 0 Q (F0 m 4 ls [])) :
    ∀ (x1 : Int) (x3 : Int) (t0 : Int) (H : Heap) (locs : List Loc) (ls : Array Slot), Wd D A s (wM q cI cZ σ) H locs → lv_has ls 4 [(0, .ref (q 0)), (1, .int (zI x1)), (3, .int (zI x3))] → pX11_couldBe_38 k4 σ x1 x3 t0 = some r → W p l e rmX11_couldBe s m args below meth c H locs 0 0 Q (F0 m 38 ls [.int (zI t0)]) := by
  obtain ⟨hx, hb, hr, hml, hown, hts, hlk, hK, hN⟩ := id C
  intro x1 x3 t0 H locs ls hw hl hf
  rw [pX11_couldBe_38] at hf
  refine lv_istore_n (lv' := [(2, .int (zI t0)), (0, .ref (q 0)), (1, .int (zI x1)), (3, .int (zI x3))]) hx hb dX11_couldBe_38 rfl hl (by decide) rfl (fun ls hl => ?_)
  refine lv_iinc (v := zI (x3 + 1)) (lv' := [(3, .int (zI (x3 + 1))), (2, .int (zI t0)), (0, .ref (q 0)), (1, .int (zI x1))]) hx hb dX11_couldBe_39 hl (k := 3) rfl (zI_add _ _) (by decide) rfl (fun ls hl => ?_)
  refine lv_goto (tgt := 4) hx hb dX11_couldBe_42 (by decide) ?_
  exact hk4 x1 t0 (x3 + 1) H locs ls hw (lv_sub hl [2, 3, 1, 0] rfl) hf
set_option maxHeartbeats 4000000 in
set_option maxRecDepth 100000 in
theorem wX11_couldBe_37 {p : Program} {l : Launch} {e : Env} {s : State} {m : MethodId} {args : Array Value} {below : List Frame} {meth : Method} {c : Code} {D : va_G} {A : Nat → Prop} {q : Nat → Nat} {cI cZ : ClassId} {Q : State → Prop} {σ : St} {r : Int} (C : Cx p s m args meth c D (TY cI cZ) cX11_couldBe (some .boolean) 4 wsX11_couldBe RX11) (hret : RtZ p l e rmX11_couldBe s m args below meth c D A cX11_couldBe Q (wM q cI cZ σ) (zI r)) (k4 : Int → Int → Int → Option (Int)) (hk4 : ∀ (x1 : Int) (x2 : Int) (x3 : Int) (H : Heap) (locs : List Loc) (ls : Array Slot), Wd D A s (wM q cI cZ σ) H locs → lv_has ls 4 [(0, .ref (q 0)), (1, .int (zI x1)), (2, .int (zI x2)), (3, .int (zI x3))] → k4 x1 x2 x3 = some r → W p l e rmX11_couldBe s m args below meth c H locs 0 0 Q (F0 m 4 ls [])) :
    ∀ (x1 : Int) (x3 : Int) (H : Heap) (locs : List Loc) (ls : Array Slot), Wd D A s (wM q cI cZ σ) H locs → lv_has ls 4 [(0, .ref (q 0)), (1, .int (zI x1)), (3, .int (zI x3))] → pX11_couldBe_37 k4 σ x1 x3 = some r → W p l e rmX11_couldBe s m args below meth c H locs 0 0 Q (F0 m 37 ls []) := by
  obtain ⟨hx, hb, hr, hml, hown, hts, hlk, hK, hN⟩ := id C
  intro x1 x3 H locs ls hw hl hf
  rw [pX11_couldBe_37] at hf
  refine lv_iconst (v := zI 0) hx hb dX11_couldBe_37 rfl ?_
  exact wX11_couldBe_38 C hret _ hk4 x1 x3 0 H locs ls hw (lv_sub hl [0, 1, 2] rfl) hf
set_option maxHeartbeats 4000000 in
set_option maxRecDepth 100000 in
theorem wX11_couldBe_4 {p : Program} {l : Launch} {e : Env} {s : State} {m : MethodId} {args : Array Value} {below : List Frame} {meth : Method} {c : Code} {D : va_G} {A : Nat → Prop} {q : Nat → Nat} {cI cZ : ClassId} {Q : State → Prop} {σ : St} {r : Int} (C : Cx p s m args meth c D (TY cI cZ) cX11_couldBe (some .boolean) 4 wsX11_couldBe RX11) (hret : RtZ p l e rmX11_couldBe s m args below meth c D A cX11_couldBe Q (wM q cI cZ σ) (zI r)) :
    ∀ (n : Nat) (x1 : Int) (x2 : Int) (x3 : Int) (H : Heap) (locs : List Loc) (ls : Array Slot), Wd D A s (wM q cI cZ σ) H locs → lv_has ls 4 [(0, .ref (q 0)), (1, .int (zI x1)), (2, .int (zI x2)), (3, .int (zI x3))] → pX11_couldBe_4 σ n x1 x2 x3 = some r → W p l e rmX11_couldBe s m args below meth c H locs 0 0 Q (F0 m 4 ls []) := by
  obtain ⟨hx, hb, hr, hml, hown, hts, hlk, hK, hN⟩ := id C
  intro n
  induction n with
  | zero =>
    intro x1 x2 x3 H locs ls hw hl hf
    exact absurd (show (none : Option (Int)) = some r from hf) (by simp)
  | succ n ih =>
    intro x1 x2 x3 H locs ls hw hl hf
    rw [pX11_couldBe_4] at hf
    refine lv_iload_n hx hb dX11_couldBe_4 rfl (lv_at hl 3 rfl) ?_
    refine lv_aload_n hx hb dX11_couldBe_5 rfl (lv_at hl 0 rfl) ?_
    refine va_get (D := D) (ci := 11) (v := .int (zI (σ.1 13))) (C := RX11) (T := TX11) (N := 40) hx hb hts (fun _ h => List.mem_cons_of_mem _ (List.mem_append_right _ h)) hown hK hw.1 0 rfl rfl 31 (by decide) (hts (.fieldLink RX11 162 "EggThronesModel" "seen" "I") (List.mem_of_getElem? (i := 1) rfl)) (fun _ h9 => h9) rfl dX11_couldBe_6 ?_
    obtain ⟨hg9, hf⟩ := gd_s hf
    refine zv_icmp_ge (tgt := 45) hx hb hg9 dX11_couldBe_9 (by decide) (fun (c9 : (σ.1 13) ≤ x3) => ?_) (fun (c9 : ¬ ((σ.1 13) ≤ x3)) => ?_)
    · rw [if_pos c9] at hf
      refine lv_iload_n hx hb dX11_couldBe_45 rfl (lv_at hl 2 rfl) ?_
      obtain ⟨hz46, hf⟩ := gd_s hf
      cases hf
      exact hret H locs ls 46 dX11_couldBe_46 (nz01 hz46) hw
    · rw [if_neg c9] at hf
      refine lv_iload_n hx hb dX11_couldBe_12 rfl (lv_at hl 2 rfl) ?_
      obtain ⟨hg13, hf⟩ := gd_s hf
      refine zv_if_eq (tgt := 37) hx hb hg13 dX11_couldBe_13 (by decide) (fun (c13 : x2 = 0) => ?_) (fun (c13 : ¬ (x2 = 0)) => ?_)
      · rw [if_pos c13] at hf
        exact wX11_couldBe_37 C hret _ ih x1 x3 H locs ls hw (lv_sub hl [0, 1, 3] rfl) hf
      · rw [if_neg c13] at hf
        refine lv_iload_n hx hb dX11_couldBe_16 rfl (lv_at hl 1 rfl) ?_
        refine lv_aload_n hx hb dX11_couldBe_17 rfl (lv_at hl 0 rfl) ?_
        refine va_get (D := D) (ci := 11) (v := .ref (q 19)) (C := RX11) (T := TX11) (N := 40) hx hb hts (fun _ h => List.mem_cons_of_mem _ (List.mem_append_right _ h)) hown hK hw.1 0 rfl rfl 32 (by decide) (hts (.fieldLink RX11 68 "EggThronesModel" "seenBy" "[I") (List.mem_of_getElem? (i := 2) rfl)) (fun _ h9 => h9) rfl dX11_couldBe_18 ?_
        refine lv_iload_n hx hb dX11_couldBe_21 rfl (lv_at hl 3 rfl) ?_
        obtain ⟨hi22, hf⟩ := gd_s hf
        refine zv_iald (D := D) hx hb hK hw.1 19 0 rfl rfl hi22 (by decide) dX11_couldBe_22 ?_
        obtain ⟨hz23, hf⟩ := gd_s hf
        refine zv_idiv hx hb hz23 dX11_couldBe_23 ?_
        refine lv_aload_n hx hb dX11_couldBe_24 rfl (lv_at hl 0 rfl) ?_
        refine va_get (D := D) (ci := 11) (v := .ref (q 20)) (C := RX11) (T := TX11) (N := 40) hx hb hts (fun _ h => List.mem_cons_of_mem _ (List.mem_append_right _ h)) hown hK hw.1 0 rfl rfl 33 (by decide) (hts (.fieldLink RX11 71 "EggThronesModel" "seenIs" "[I") (List.mem_of_getElem? (i := 3) rfl)) (fun _ h9 => h9) rfl dX11_couldBe_25 ?_
        refine lv_iload_n hx hb dX11_couldBe_28 rfl (lv_at hl 3 rfl) ?_
        obtain ⟨hi29, hf⟩ := gd_s hf
        refine zv_iald (D := D) hx hb hK hw.1 20 0 rfl rfl hi29 (by decide) dX11_couldBe_29 ?_
        obtain ⟨hg30, hf⟩ := gd_s hf
        refine zv_icmp_ne (tgt := 37) hx hb hg30 dX11_couldBe_30 (by decide) (fun (c30 : ¬ ((x1 / (σ.2 18 (Int.toNat x3))) = (σ.2 19 (Int.toNat x3)))) => ?_) (fun (c30 : (x1 / (σ.2 18 (Int.toNat x3))) = (σ.2 19 (Int.toNat x3))) => ?_)
        · rw [if_neg c30] at hf
          exact wX11_couldBe_37 C hret _ ih x1 x3 H locs ls hw (lv_sub hl [0, 1, 3] rfl) hf
        · rw [if_pos c30] at hf
          refine lv_iconst (v := zI 1) hx hb dX11_couldBe_33 rfl ?_
          refine lv_goto (tgt := 38) hx hb dX11_couldBe_34 (by decide) ?_
          exact wX11_couldBe_38 C hret _ ih x1 x3 1 H locs ls hw (lv_sub hl [0, 1, 3] rfl) hf
set_option maxHeartbeats 4000000 in
set_option maxRecDepth 100000 in
theorem wX11_couldBe_0 {p : Program} {l : Launch} {e : Env} {s : State} {m : MethodId} {args : Array Value} {below : List Frame} {meth : Method} {c : Code} {D : va_G} {A : Nat → Prop} {q : Nat → Nat} {cI cZ : ClassId} {Q : State → Prop} {σ : St} {r : Int} (C : Cx p s m args meth c D (TY cI cZ) cX11_couldBe (some .boolean) 4 wsX11_couldBe RX11) (hret : RtZ p l e rmX11_couldBe s m args below meth c D A cX11_couldBe Q (wM q cI cZ σ) (zI r)) :
    ∀ (x1 : Int) (H : Heap) (locs : List Loc) (ls : Array Slot), Wd D A s (wM q cI cZ σ) H locs → lv_has ls 4 [(0, .ref (q 0)), (1, .int (zI x1))] → pX11_couldBe_0 σ x1 = some r → W p l e rmX11_couldBe s m args below meth c H locs 0 0 Q (F0 m 0 ls []) := by
  obtain ⟨hx, hb, hr, hml, hown, hts, hlk, hK, hN⟩ := id C
  intro x1 H locs ls hw hl hf
  rw [pX11_couldBe_0] at hf
  refine lv_iconst (v := zI 1) hx hb dX11_couldBe_0 rfl ?_
  refine lv_istore_n (lv' := [(2, .int (zI 1)), (0, .ref (q 0)), (1, .int (zI x1))]) hx hb dX11_couldBe_1 rfl hl (by decide) rfl (fun ls hl => ?_)
  refine lv_iconst (v := zI 0) hx hb dX11_couldBe_2 rfl ?_
  refine lv_istore_n (lv' := [(3, .int (zI 0)), (2, .int (zI 1)), (0, .ref (q 0)), (1, .int (zI x1))]) hx hb dX11_couldBe_3 rfl hl (by decide) rfl (fun ls hl => ?_)
  exact wX11_couldBe_4 C hret FU x1 1 0 H locs ls hw (lv_sub hl [2, 3, 1, 0] rfl) hf
set_option maxHeartbeats 4000000 in
set_option maxRecDepth 100000 in
theorem tX11_couldBe {l : Launch} {D : va_G} {A : Nat → Prop} {cI cZ : ClassId} {q : Nat → Nat} {σ : St} {x1 : Int} {r : Int} (hf : pX11_couldBe σ x1 = some r) : Met l yX11_couldBe wsX11_couldBe rmX11_couldBe (va_Pc [.ref (q 0), .int (zI x1)] (CX D (TY cI cZ) A (wM q cI cZ σ))) (QI D (TY cI cZ) A (wM q cI cZ σ) (zI r)) 0 0 A := by
  refine opn (cc := cX11_couldBe) (maxL := 4) (ret := (some .boolean)) (by decide) rfl (Nat.le_of_ble_eq_true rfl) (fun p e s m below meth c C ls hw hl => ?_)
  have hl : lv_has ls 4 [(0, .ref (q 0)), (1, .int (zI x1))] := hl
  rw [pX11_couldBe] at hf
  exact wX11_couldBe_0 C (rtZ C) x1 _ _ ls hw (lv_sub hl [0, 1] rfl) hf
