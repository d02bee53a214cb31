abbrev rmX8_hasEgg_c1 : Room := { frames := 0, cells := 0, slots := 0, locals := 0 }
set_option maxHeartbeats 4000000 in
set_option maxRecDepth 100000 in
theorem wX8_hasEgg_c1_0 {p : Program} {l : Launch} {e : Env} {s : State} {m : MethodId} {args : Array Value} {below : List Frame} {meth : Method} {c : Code} {D : va_G} {A : Nat → Prop} {q : Nat → Nat} {cI cZ : ClassId} {Q : State → Prop} {σ : St} {r : Int} (C : Cx p s m args meth c D (TY cI cZ) cX8_hasEgg (some .boolean) 2 wsX8_hasEgg RX8) (hret : RtZ p l e rmX8_hasEgg_c1 s m args below meth c D A cX8_hasEgg Q (wE q cI cZ σ) (zI r)) :
    ∀ (x1 : Int) (H : Heap) (locs : List Loc) (ls : Array Slot), Wd D A s (wE q cI cZ σ) H locs → lv_has ls 2 [(0, .ref (q 1)), (1, .int (zI x1))] → pX8_hasEgg_c1_0 σ x1 = some r → W p l e rmX8_hasEgg_c1 s m args below meth c H locs 0 0 Q (F0 m 0 ls []) := by
  obtain ⟨hx, hb, hr, hml, hown, hts, hlk, hK, hN⟩ := id C
  intro x1 H locs ls hw hl hf
  rw [pX8_hasEgg_c1_0] at hf
  refine lv_iload_n hx hb dX8_hasEgg_0 rfl (lv_at hl 1 rfl) ?_
  obtain ⟨hg1, hf⟩ := gd_s hf
  refine zv_if_lt (tgt := 22) hx hb hg1 dX8_hasEgg_1 (by decide) (fun (c1 : x1 < 0) => ?_) (fun (c1 : ¬ (x1 < 0)) => ?_)
  · rw [if_pos c1] at hf
    refine lv_iconst (v := zI 0) hx hb dX8_hasEgg_22 rfl ?_
    cases hf
    exact hret H locs ls 23 dX8_hasEgg_23 (by decide +kernel) hw
  · rw [if_neg c1] at hf
    refine lv_iload_n hx hb dX8_hasEgg_4 rfl (lv_at hl 1 rfl) ?_
    refine lv_aload_n hx hb dX8_hasEgg_5 rfl (lv_at hl 0 rfl) ?_
    refine va_get (D := D) (ci := 8) (v := .int (zI (σ.1 5))) (C := RX8) (T := TX8) (N := 10) hx hb hts (fun _ h => List.mem_cons_of_mem _ (List.mem_append_right _ h)) hown hK hw.1 1 rfl rfl 3 (by decide) (hts (.fieldLink RX8 37 "EggThrones$Table" "eggs" "I") (List.mem_of_getElem? (i := 1) rfl)) (fun _ h9 => h9) rfl dX8_hasEgg_6 ?_
    obtain ⟨hg9, hf⟩ := gd_s hf
    refine zv_icmp_ge (tgt := 22) hx hb hg9 dX8_hasEgg_9 (by decide) (fun (c9 : (σ.1 5) ≤ x1) => ?_) (fun (c9 : ¬ ((σ.1 5) ≤ x1)) => ?_)
    · rw [if_pos c9] at hf
      refine lv_iconst (v := zI 0) hx hb dX8_hasEgg_22 rfl ?_
      cases hf
      exact hret H locs ls 23 dX8_hasEgg_23 (by decide +kernel) hw
    · rw [if_neg c9] at hf
      refine lv_iload_n hx hb dX8_hasEgg_12 rfl (lv_at hl 1 rfl) ?_
      refine lv_bipush (v := zI 7) hx hb dX8_hasEgg_13 (by decide +kernel) ?_
      obtain ⟨hg15, hf⟩ := gd_s hf
      refine zv_icmp_ge (tgt := 22) hx hb ⟨hg15, by decide⟩ dX8_hasEgg_15 (by decide) (fun (c15 : 7 ≤ x1) => ?_) (fun (c15 : ¬ (7 ≤ x1)) => ?_)
      · rw [if_pos c15] at hf
        refine lv_iconst (v := zI 0) hx hb dX8_hasEgg_22 rfl ?_
        cases hf
        exact hret H locs ls 23 dX8_hasEgg_23 (by decide +kernel) hw
      · rw [if_neg c15] at hf
        refine lv_iconst (v := zI 1) hx hb dX8_hasEgg_18 rfl ?_
        refine lv_goto (tgt := 23) hx hb dX8_hasEgg_19 (by decide) ?_
        cases hf
        exact hret H locs ls 23 dX8_hasEgg_23 (by decide +kernel) hw
set_option maxHeartbeats 4000000 in
set_option maxRecDepth 100000 in
theorem tX8_hasEgg_c1 {l : Launch} {D : va_G} {A : Nat → Prop} {cI cZ : ClassId} {q : Nat → Nat} {σ : St} {x1 : Int} {r : Int} (hf : pX8_hasEgg_c1 σ x1 = some r) : Met l yX8_hasEgg wsX8_hasEgg rmX8_hasEgg_c1 (va_Pc [.ref (q 1), .int (zI x1)] (CX D (TY cI cZ) A (wE q cI cZ σ))) (QI D (TY cI cZ) A (wE q cI cZ σ) (zI r)) 0 0 A := by
  refine opn (cc := cX8_hasEgg) (maxL := 2) (ret := (some .boolean)) (by decide) rfl (Nat.le_of_ble_eq_true rfl) (fun p e s m below meth c C ls hw hl => ?_)
  have hl : lv_has ls 2 [(0, .ref (q 1)), (1, .int (zI x1))] := hl
  rw [pX8_hasEgg_c1] at hf
  exact wX8_hasEgg_c1_0 C (rtZ C) x1 _ _ ls hw (lv_sub hl [0, 1] rfl) hf
abbrev rmX4_stateOf : Room := { frames := 1, cells := 0, slots := 0, locals := 21 }
set_option maxHeartbeats 4000000 in
set_option maxRecDepth 100000 in
theorem wX4_stateOf_0 {p : Program} {l : Launch} {e : Env} {s : State} {m : MethodId} {args : Array Value} {below : List Frame} {meth : Method} {c : Code} {D : va_G} {A : Nat → Prop} {q : Nat → Nat} {cI cZ : ClassId} {Q : State → Prop} {σ : St} {r : Int} (C : Cx p s m args meth c D (TY cI cZ) cX4_stateOf (some .int) 2 wsX4_stateOf RX4) (hret : RtI p l e rmX4_stateOf s m args below meth c D A cX4_stateOf Q (wE q cI cZ σ) (zI r)) :
    ∀ (x1 : Int) (H : Heap) (locs : List Loc) (ls : Array Slot), Wd D A s (wE q cI cZ σ) H locs → lv_has ls 2 [(0, .ref (q 15)), (1, .int (zI x1))] → pX4_stateOf_0 σ x1 = some r → W p l e rmX4_stateOf s m args below meth c H locs 0 0 Q (F0 m 0 ls []) := by
  obtain ⟨hx, hb, hr, hml, hown, hts, hlk, hK, hN⟩ := id C
  intro x1 H locs ls hw hl hf
  rw [pX4_stateOf_0] at hf
  refine lv_aload_n hx hb dX4_stateOf_0 rfl (lv_at hl 0 rfl) ?_
  refine va_get (D := D) (ci := 4) (v := .ref (q 1)) (C := RX4) (T := TX4) (N := 9) hx hb hts (fun _ h => List.mem_cons_of_mem _ (List.mem_append_left _ (List.mem_append_right _ h))) hown hK hw.1 15 rfl rfl 0 (by decide) (hts (.fieldLink RX4 9 "EggThrones$Morning" "table" "LEggThrones$Table;") (List.mem_of_getElem? (i := 1) rfl)) (fun _ h9 => h9) rfl dX4_stateOf_1 ?_
  refine lv_iload_n hx hb dX4_stateOf_4 rfl (lv_at hl 1 rfl) ?_
  obtain ⟨r5, h5, hf⟩ := bd_s hf
  replace hf := bt_s hf
  refine gVi (As := [.int (zI x1)]) (rest := []) C hw (tX8_hasEgg_c1 h5) (cwV 1 hts gX4_stateOf_X8_hasEgg rfl rfl rfl (by decide +kernel) ⟨Nat.le_of_ble_eq_true rfl, Nat.le_of_ble_eq_true rfl⟩) 8 1 rfl rfl rfl hl.1 rfl (Nat.le_of_ble_eq_true rfl) dX4_stateOf_5 (fun H locs hw => ?_)
  obtain ⟨hg8, hf⟩ := gd_s hf
  refine zv_if_eq (tgt := 20) hx hb hg8 dX4_stateOf_8 (by decide) (fun (c8 : r5 = 0) => ?_) (fun (c8 : ¬ (r5 = 0)) => ?_)
  · rw [if_pos c8] at hf
    refine lv_iconst (v := zI (-1)) hx hb dX4_stateOf_20 rfl ?_
    cases hf
    exact hret H locs ls 21 dX4_stateOf_21 hw
  · rw [if_neg c8] at hf
    refine lv_aload_n hx hb dX4_stateOf_11 rfl (lv_at hl 0 rfl) ?_
    refine va_get (D := D) (ci := 4) (v := .ref (q 16)) (C := RX4) (T := TX4) (N := 9) hx hb hts (fun _ h => List.mem_cons_of_mem _ (List.mem_append_left _ (List.mem_append_right _ h))) hown hK hw.1 15 rfl rfl 1 (by decide) (hts (.fieldLink RX4 15 "EggThrones$Morning" "states" "[I") (List.mem_of_getElem? (i := 2) rfl)) (fun _ h9 => h9) rfl dX4_stateOf_12 ?_
    refine lv_iload_n hx hb dX4_stateOf_15 rfl (lv_at hl 1 rfl) ?_
    obtain ⟨hi16, hf⟩ := gd_s hf
    refine zv_iald (D := D) hx hb hK hw.1 16 0 rfl rfl hi16 (by decide) dX4_stateOf_16 ?_
    refine lv_goto (tgt := 21) hx hb dX4_stateOf_17 (by decide) ?_
    cases hf
    exact hret H locs ls 21 dX4_stateOf_21 hw
set_option maxHeartbeats 4000000 in
set_option maxRecDepth 100000 in
theorem tX4_stateOf {l : Launch} {D : va_G} {A : Nat → Prop} {cI cZ : ClassId} {q : Nat → Nat} {σ : St} {x1 : Int} {r : Int} (hf : pX4_stateOf σ x1 = some r) : Met l yX4_stateOf wsX4_stateOf rmX4_stateOf (va_Pc [.ref (q 15), .int (zI x1)] (CX D (TY cI cZ) A (wE q cI cZ σ))) (QI D (TY cI cZ) A (wE q cI cZ σ) (zI r)) 0 0 A := by
  refine opn (cc := cX4_stateOf) (maxL := 2) (ret := (some .int)) (by decide) rfl (Nat.le_of_ble_eq_true rfl) (fun p e s m below meth c C ls hw hl => ?_)
  have hl : lv_has ls 2 [(0, .ref (q 15)), (1, .int (zI x1))] := hl
  rw [pX4_stateOf] at hf
  exact wX4_stateOf_0 C (rtI C) x1 _ _ ls hw (lv_sub hl [0, 1] rfl) hf
abbrev rmX4_setThatIs : Room := { frames := 2, cells := 0, slots := 0, locals := 42 }
set_option maxHeartbeats 4000000 in
set_option maxRecDepth 100000 in
theorem wX4_setThatIs_27 {p : Program} {l : Launch} {e : Env} {s : State} {m : MethodId} {args : Array Value} {below : List Frame} {meth : Method} {c : Code} {D : va_G} {A : Nat → Prop} {q : Nat → Nat} {cI cZ : ClassId} {Q : State → Prop} {σ : St} {r : Int} (C : Cx p s m args meth c D (TY cI cZ) cX4_setThatIs (some .int) 4 wsX4_setThatIs RX4) (hret : RtI p l e rmX4_setThatIs s m args below meth c D A cX4_setThatIs Q (wE q cI cZ σ) (zI r)) (k4 : Int → Int → Int → Option (Int)) (hk4 : ∀ (x1 : Int) (x2 : Int) (x3 : Int) (H : Heap) (locs : List Loc) (ls : Array Slot), Wd D A s (wE q cI cZ σ) H locs → lv_has ls 4 [(0, .ref (q 15)), (1, .int (zI x1)), (2, .int (zI x2)), (3, .int (zI x3))] → k4 x1 x2 x3 = some r → W p l e rmX4_setThatIs s m args below meth c H locs 0 0 Q (F0 m 4 ls [])) :
    ∀ (x1 : Int) (x3 : Int) (t0 : Int) (t1 : Int) (H : Heap) (locs : List Loc) (ls : Array Slot), Wd D A s (wE q cI cZ σ) H locs → lv_has ls 4 [(0, .ref (q 15)), (1, .int (zI x1)), (3, .int (zI x3))] → pX4_setThatIs_27 k4 σ x1 x3 t0 t1 = some r → W p l e rmX4_setThatIs s m args below meth c H locs 0 0 Q (F0 m 27 ls [.int (zI t1), .int (zI t0)]) := by
  obtain ⟨hx, hb, hr, hml, hown, hts, hlk, hK, hN⟩ := id C
  intro x1 x3 t0 t1 H locs ls hw hl hf
  rw [pX4_setThatIs_27] at hf
  refine zv_ior hx hb dX4_setThatIs_27 ?_
  refine lv_istore_n (lv' := [(2, .int (zI (zOr t0 t1))), (0, .ref (q 15)), (1, .int (zI x1)), (3, .int (zI x3))]) hx hb dX4_setThatIs_28 rfl hl (by decide) rfl (fun ls hl => ?_)
  refine lv_iinc (v := zI (x3 + 1)) (lv' := [(3, .int (zI (x3 + 1))), (2, .int (zI (zOr t0 t1))), (0, .ref (q 15)), (1, .int (zI x1))]) hx hb dX4_setThatIs_29 hl (k := 3) rfl (zI_add _ _) (by decide) rfl (fun ls hl => ?_)
  refine lv_goto (tgt := 4) hx hb dX4_setThatIs_32 (by decide) ?_
  exact hk4 x1 (zOr t0 t1) (x3 + 1) H locs ls hw (lv_sub hl [2, 3, 1, 0] rfl) hf
set_option maxHeartbeats 4000000 in
set_option maxRecDepth 100000 in
theorem wX4_setThatIs_4 {p : Program} {l : Launch} {e : Env} {s : State} {m : MethodId} {args : Array Value} {below : List Frame} {meth : Method} {c : Code} {D : va_G} {A : Nat → Prop} {q : Nat → Nat} {cI cZ : ClassId} {Q : State → Prop} {σ : St} {r : Int} (C : Cx p s m args meth c D (TY cI cZ) cX4_setThatIs (some .int) 4 wsX4_setThatIs RX4) (hret : RtI p l e rmX4_setThatIs s m args below meth c D A cX4_setThatIs Q (wE q cI cZ σ) (zI r)) :
    ∀ (n : Nat) (x1 : Int) (x2 : Int) (x3 : Int) (H : Heap) (locs : List Loc) (ls : Array Slot), Wd D A s (wE q cI cZ σ) H locs → lv_has ls 4 [(0, .ref (q 15)), (1, .int (zI x1)), (2, .int (zI x2)), (3, .int (zI x3))] → pX4_setThatIs_4 σ n x1 x2 x3 = some r → W p l e rmX4_setThatIs s m args below meth c H locs 0 0 Q (F0 m 4 ls []) := by
  obtain ⟨hx, hb, hr, hml, hown, hts, hlk, hK, hN⟩ := id C
  intro n
  induction n with
  | zero =>
    intro x1 x2 x3 H locs ls hw hl hf
    exact absurd (show (none : Option (Int)) = some r from hf) (by simp)
  | succ n ih =>
    intro x1 x2 x3 H locs ls hw hl hf
    rw [pX4_setThatIs_4] at hf
    refine lv_iload_n hx hb dX4_setThatIs_4 rfl (lv_at hl 3 rfl) ?_
    refine lv_bipush (v := zI 7) hx hb dX4_setThatIs_5 (by decide +kernel) ?_
    obtain ⟨hg7, hf⟩ := gd_s hf
    refine zv_icmp_ge (tgt := 35) hx hb ⟨hg7, by decide⟩ dX4_setThatIs_7 (by decide) (fun (c7 : 7 ≤ x3) => ?_) (fun (c7 : ¬ (7 ≤ x3)) => ?_)
    · rw [if_pos c7] at hf
      refine lv_iload_n hx hb dX4_setThatIs_35 rfl (lv_at hl 2 rfl) ?_
      cases hf
      exact hret H locs ls 36 dX4_setThatIs_36 hw
    · rw [if_neg c7] at hf
      refine lv_iload_n hx hb dX4_setThatIs_10 rfl (lv_at hl 2 rfl) ?_
      refine lv_aload_n hx hb dX4_setThatIs_11 rfl (lv_at hl 0 rfl) ?_
      refine lv_iload_n hx hb dX4_setThatIs_12 rfl (lv_at hl 3 rfl) ?_
      obtain ⟨r13, h13, hf⟩ := bd_s hf
      replace hf := bt_s hf
      refine gVi (As := [.int (zI x3)]) (rest := [.int (zI x2)]) C hw (tX4_stateOf h13) (cwV 1 hts gX4_setThatIs_X4_stateOf rfl rfl rfl (by decide +kernel) ⟨Nat.le_of_ble_eq_true rfl, Nat.le_of_ble_eq_true rfl⟩) 4 15 rfl rfl rfl hl.1 rfl (Nat.le_of_ble_eq_true rfl) dX4_setThatIs_13 (fun H locs hw => ?_)
      refine lv_iload_n hx hb dX4_setThatIs_16 rfl (lv_at hl 1 rfl) ?_
      obtain ⟨hg17, hf⟩ := gd_s hf
      refine zv_icmp_ne (tgt := 26) hx hb hg17 dX4_setThatIs_17 (by decide) (fun (c17 : ¬ (r13 = x1)) => ?_) (fun (c17 : r13 = x1) => ?_)
      · rw [if_neg c17] at hf
        refine lv_iconst (v := zI 0) hx hb dX4_setThatIs_26 rfl ?_
        exact wX4_setThatIs_27 C hret _ ih x1 x3 x2 0 H locs ls hw (lv_sub hl [0, 1, 3] rfl) hf
      · rw [if_pos c17] at hf
        refine lv_iconst (v := zI 1) hx hb dX4_setThatIs_20 rfl ?_
        refine lv_iload_n hx hb dX4_setThatIs_21 rfl (lv_at hl 3 rfl) ?_
        refine zv_ishl hx hb dX4_setThatIs_22 ?_
        refine lv_goto (tgt := 27) hx hb dX4_setThatIs_23 (by decide) ?_
        exact wX4_setThatIs_27 C hret _ ih x1 x3 x2 (zShl 1 x3) H locs ls hw (lv_sub hl [0, 1, 3] rfl) hf
set_option maxHeartbeats 4000000 in
set_option maxRecDepth 100000 in
theorem wX4_setThatIs_0 {p : Program} {l : Launch} {e : Env} {s : State} {m : MethodId} {args : Array Value} {below : List Frame} {meth : Method} {c : Code} {D : va_G} {A : Nat → Prop} {q : Nat → Nat} {cI cZ : ClassId} {Q : State → Prop} {σ : St} {r : Int} (C : Cx p s m args meth c D (TY cI cZ) cX4_setThatIs (some .int) 4 wsX4_setThatIs RX4) (hret : RtI p l e rmX4_setThatIs s m args below meth c D A cX4_setThatIs Q (wE q cI cZ σ) (zI r)) :
    ∀ (x1 : Int) (H : Heap) (locs : List Loc) (ls : Array Slot), Wd D A s (wE q cI cZ σ) H locs → lv_has ls 4 [(0, .ref (q 15)), (1, .int (zI x1))] → pX4_setThatIs_0 σ x1 = some r → W p l e rmX4_setThatIs s m args below meth c H locs 0 0 Q (F0 m 0 ls []) := by
  obtain ⟨hx, hb, hr, hml, hown, hts, hlk, hK, hN⟩ := id C
  intro x1 H locs ls hw hl hf
  rw [pX4_setThatIs_0] at hf
  refine lv_iconst (v := zI 0) hx hb dX4_setThatIs_0 rfl ?_
  refine lv_istore_n (lv' := [(2, .int (zI 0)), (0, .ref (q 15)), (1, .int (zI x1))]) hx hb dX4_setThatIs_1 rfl hl (by decide) rfl (fun ls hl => ?_)
  refine lv_iconst (v := zI 0) hx hb dX4_setThatIs_2 rfl ?_
  refine lv_istore_n (lv' := [(3, .int (zI 0)), (2, .int (zI 0)), (0, .ref (q 15)), (1, .int (zI x1))]) hx hb dX4_setThatIs_3 rfl hl (by decide) rfl (fun ls hl => ?_)
  exact wX4_setThatIs_4 C hret FU x1 0 0 H locs ls hw (lv_sub hl [2, 3, 1, 0] rfl) hf
set_option maxHeartbeats 4000000 in
set_option maxRecDepth 100000 in
theorem tX4_setThatIs {l : Launch} {D : va_G} {A : Nat → Prop} {cI cZ : ClassId} {q : Nat → Nat} {σ : St} {x1 : Int} {r : Int} (hf : pX4_setThatIs σ x1 = some r) : Met l yX4_setThatIs wsX4_setThatIs rmX4_setThatIs (va_Pc [.ref (q 15), .int (zI x1)] (CX D (TY cI cZ) A (wE q cI cZ σ))) (QI D (TY cI cZ) A (wE q cI cZ σ) (zI r)) 0 0 A := by
  refine opn (cc := cX4_setThatIs) (maxL := 4) (ret := (some .int)) (by decide) rfl (Nat.le_of_ble_eq_true rfl) (fun p e s m below meth c C ls hw hl => ?_)
  have hl : lv_has ls 4 [(0, .ref (q 15)), (1, .int (zI x1))] := hl
  rw [pX4_setThatIs] at hf
  exact wX4_setThatIs_0 C (rtI C) x1 _ _ ls hw (lv_sub hl [0, 1] rfl) hf
abbrev rmX4_boiledOf : Room := { frames := 1, cells := 0, slots := 0, locals := 21 }
set_option maxHeartbeats 4000000 in
set_option maxRecDepth 100000 in
theorem wX4_boiledOf_0 {p : Program} {l : Launch} {e : Env} {s : State} {m : MethodId} {args : Array Value} {below : List Frame} {meth : Method} {c : Code} {D : va_G} {A : Nat → Prop} {q : Nat → Nat} {cI cZ : ClassId} {Q : State → Prop} {σ : St} {r : Int} (C : Cx p s m args meth c D (TY cI cZ) cX4_boiledOf (some .int) 2 wsX4_boiledOf RX4) (hret : RtI p l e rmX4_boiledOf s m args below meth c D A cX4_boiledOf Q (wE q cI cZ σ) (zI r)) :
    ∀ (x1 : Int) (H : Heap) (locs : List Loc) (ls : Array Slot), Wd D A s (wE q cI cZ σ) H locs → lv_has ls 2 [(0, .ref (q 15)), (1, .int (zI x1))] → pX4_boiledOf_0 σ x1 = some r → W p l e rmX4_boiledOf s m args below meth c H locs 0 0 Q (F0 m 0 ls []) := by
  obtain ⟨hx, hb, hr, hml, hown, hts, hlk, hK, hN⟩ := id C
  intro x1 H locs ls hw hl hf
  rw [pX4_boiledOf_0] at hf
  refine lv_aload_n hx hb dX4_boiledOf_0 rfl (lv_at hl 0 rfl) ?_
  refine va_get (D := D) (ci := 4) (v := .ref (q 1)) (C := RX4) (T := TX4) (N := 9) hx hb hts (fun _ h => List.mem_cons_of_mem _ (List.mem_append_left _ (List.mem_append_right _ h))) hown hK hw.1 15 rfl rfl 0 (by decide) (hts (.fieldLink RX4 9 "EggThrones$Morning" "table" "LEggThrones$Table;") (List.mem_of_getElem? (i := 1) rfl)) (fun _ h9 => h9) rfl dX4_boiledOf_1 ?_
  refine lv_iload_n hx hb dX4_boiledOf_4 rfl (lv_at hl 1 rfl) ?_
  obtain ⟨r5, h5, hf⟩ := bd_s hf
  replace hf := bt_s hf
  refine gVi (As := [.int (zI x1)]) (rest := []) C hw (tX8_hasEgg_c1 h5) (cwV 1 hts gX4_boiledOf_X8_hasEgg rfl rfl rfl (by decide +kernel) ⟨Nat.le_of_ble_eq_true rfl, Nat.le_of_ble_eq_true rfl⟩) 8 1 rfl rfl rfl hl.1 rfl (Nat.le_of_ble_eq_true rfl) dX4_boiledOf_5 (fun H locs hw => ?_)
  obtain ⟨hg8, hf⟩ := gd_s hf
  refine zv_if_eq (tgt := 20) hx hb hg8 dX4_boiledOf_8 (by decide) (fun (c8 : r5 = 0) => ?_) (fun (c8 : ¬ (r5 = 0)) => ?_)
  · rw [if_pos c8] at hf
    refine lv_iconst (v := zI 0) hx hb dX4_boiledOf_20 rfl ?_
    cases hf
    exact hret H locs ls 21 dX4_boiledOf_21 hw
  · rw [if_neg c8] at hf
    refine lv_aload_n hx hb dX4_boiledOf_11 rfl (lv_at hl 0 rfl) ?_
    refine va_get (D := D) (ci := 4) (v := .ref (q 17)) (C := RX4) (T := TX4) (N := 9) hx hb hts (fun _ h => List.mem_cons_of_mem _ (List.mem_append_left _ (List.mem_append_right _ h))) hown hK hw.1 15 rfl rfl 2 (by decide) (hts (.fieldLink RX4 19 "EggThrones$Morning" "boiled" "[I") (List.mem_of_getElem? (i := 2) rfl)) (fun _ h9 => h9) rfl dX4_boiledOf_12 ?_
    refine lv_iload_n hx hb dX4_boiledOf_15 rfl (lv_at hl 1 rfl) ?_
    obtain ⟨hi16, hf⟩ := gd_s hf
    refine zv_iald (D := D) hx hb hK hw.1 17 0 rfl rfl hi16 (by decide) dX4_boiledOf_16 ?_
    refine lv_goto (tgt := 21) hx hb dX4_boiledOf_17 (by decide) ?_
    cases hf
    exact hret H locs ls 21 dX4_boiledOf_21 hw
set_option maxHeartbeats 4000000 in
set_option maxRecDepth 100000 in
theorem tX4_boiledOf {l : Launch} {D : va_G} {A : Nat → Prop} {cI cZ : ClassId} {q : Nat → Nat} {σ : St} {x1 : Int} {r : Int} (hf : pX4_boiledOf σ x1 = some r) : Met l yX4_boiledOf wsX4_boiledOf rmX4_boiledOf (va_Pc [.ref (q 15), .int (zI x1)] (CX D (TY cI cZ) A (wE q cI cZ σ))) (QI D (TY cI cZ) A (wE q cI cZ σ) (zI r)) 0 0 A := by
  refine opn (cc := cX4_boiledOf) (maxL := 2) (ret := (some .int)) (by decide) rfl (Nat.le_of_ble_eq_true rfl) (fun p e s m below meth c C ls hw hl => ?_)
  have hl : lv_has ls 2 [(0, .ref (q 15)), (1, .int (zI x1))] := hl
  rw [pX4_boiledOf] at hf
  exact wX4_boiledOf_0 C (rtI C) x1 _ _ ls hw (lv_sub hl [0, 1] rfl) hf
abbrev rmX8_hardness_c1 : Room := { frames := 1, cells := 0, slots := 0, locals := 30 }
set_option maxHeartbeats 4000000 in
set_option maxRecDepth 100000 in
theorem wX8_hardness_c1_0 {p : Program} {l : Launch} {e : Env} {s : State} {m : MethodId} {args : Array Value} {below : List Frame} {meth : Method} {c : Code} {D : va_G} {A : Nat → Prop} {q : Nat → Nat} {cI cZ : ClassId} {Q : State → Prop} {σ : St} {r : Int} (C : Cx p s m args meth c D (TY cI cZ) cX8_hardness (some .int) 4 wsX8_hardness RX8) (hret : RtI p l e rmX8_hardness_c1 s m args below meth c D A cX8_hardness Q (wE q cI cZ σ) (zI r)) :
    ∀ (x1 : Int) (x2 : Int) (H : Heap) (locs : List Loc) (ls : Array Slot), Wd D A s (wE q cI cZ σ) H locs → lv_has ls 4 [(0, .ref (q 1)), (1, .int (zI x1)), (2, .int (zI x2))] → pX8_hardness_c1_0 σ x1 x2 = some r → W p l e rmX8_hardness_c1 s m args below meth c H locs 0 0 Q (F0 m 0 ls []) := by
  obtain ⟨hx, hb, hr, hml, hown, hts, hlk, hK, hN⟩ := id C
  intro x1 x2 H locs ls hw hl hf
  rw [pX8_hardness_c1_0] at hf
  refine lv_aload_n hx hb dX8_hardness_0 rfl (lv_at hl 0 rfl) ?_
  refine lv_iload_n hx hb dX8_hardness_1 rfl (lv_at hl 1 rfl) ?_
  obtain ⟨r2, h2, hf⟩ := bd_s hf
  replace hf := bt_s hf
  refine gVi (As := [.int (zI x1)]) (rest := []) C hw (tX8_hasEgg_c1 h2) (cwV 1 hts gX8_hardness_X8_hasEgg rfl rfl rfl (by decide +kernel) ⟨Nat.le_of_ble_eq_true rfl, Nat.le_of_ble_eq_true rfl⟩) 8 1 rfl rfl rfl hl.1 rfl (Nat.le_of_ble_eq_true rfl) dX8_hardness_2 (fun H locs hw => ?_)
  obtain ⟨hg5, hf⟩ := gd_s hf
  refine zv_if_ne (tgt := 10) hx hb hg5 dX8_hardness_5 (by decide) (fun (c5 : ¬ (r2 = 0)) => ?_) (fun (c5 : r2 = 0) => ?_)
  · rw [if_neg c5] at hf
    refine lv_bipush (v := zI 10) hx hb dX8_hardness_10 (by decide +kernel) ?_
    refine lv_iload_n hx hb dX8_hardness_12 rfl (lv_at hl 2 rfl) ?_
    refine zv_imul hx hb dX8_hardness_13 ?_
    refine lv_iconst (v := zI 5) hx hb dX8_hardness_14 rfl ?_
    refine lv_aload_n hx hb dX8_hardness_15 rfl (lv_at hl 0 rfl) ?_
    refine va_get (D := D) (ci := 8) (v := .ref (q 3)) (C := RX8) (T := TX8) (N := 10) hx hb hts (fun _ h => List.mem_cons_of_mem _ (List.mem_append_right _ h)) hown hK hw.1 1 rfl rfl 6 (by decide) (hts (.fieldLink RX8 15 "EggThrones$Table" "sizes" "[I") (List.mem_of_getElem? (i := 1) rfl)) (fun _ h9 => h9) rfl dX8_hardness_16 ?_
    refine lv_iload_n hx hb dX8_hardness_19 rfl (lv_at hl 1 rfl) ?_
    obtain ⟨hi20, hf⟩ := gd_s hf
    refine zv_iald (D := D) hx hb hK hw.1 3 0 rfl rfl hi20 (by decide) dX8_hardness_20 ?_
    refine zv_imul hx hb dX8_hardness_21 ?_
    refine zv_isub hx hb dX8_hardness_22 ?_
    refine lv_aload_n hx hb dX8_hardness_23 rfl (lv_at hl 0 rfl) ?_
    refine va_get (D := D) (ci := 8) (v := .ref (q 2)) (C := RX8) (T := TX8) (N := 10) hx hb hts (fun _ h => List.mem_cons_of_mem _ (List.mem_append_right _ h)) hown hK hw.1 1 rfl rfl 5 (by decide) (hts (.fieldLink RX8 9 "EggThrones$Table" "ages" "[I") (List.mem_of_getElem? (i := 2) rfl)) (fun _ h9 => h9) rfl dX8_hardness_24 ?_
    refine lv_iload_n hx hb dX8_hardness_27 rfl (lv_at hl 1 rfl) ?_
    obtain ⟨hi28, hf⟩ := gd_s hf
    refine zv_iald (D := D) hx hb hK hw.1 2 0 rfl rfl hi28 (by decide) dX8_hardness_28 ?_
    refine lv_iconst (v := zI 3) hx hb dX8_hardness_29 rfl ?_
    obtain ⟨hz30, hf⟩ := gd_s hf
    refine zv_idiv hx hb hz30 dX8_hardness_30 ?_
    refine zv_iadd hx hb dX8_hardness_31 ?_
    refine lv_istore_n (lv' := [(3, .int (zI (((10 * x2) - (5 * (σ.2 1 (Int.toNat x1)))) + ((σ.2 0 (Int.toNat x1)) / 3)))), (0, .ref (q 1)), (1, .int (zI x1)), (2, .int (zI x2))]) hx hb dX8_hardness_32 rfl hl (by decide) rfl (fun ls hl => ?_)
    refine lv_iconst (v := zI 0) hx hb dX8_hardness_33 rfl ?_
    refine lv_bipush (v := zI 99) hx hb dX8_hardness_34 (by decide +kernel) ?_
    refine lv_iload_n hx hb dX8_hardness_36 rfl (lv_at hl 0 rfl) ?_
    obtain ⟨hg37, hf⟩ := gd_s hf
    refine zv_mmin (rest := [.int (zI 0)]) hx hb (hml.trans hl.1.symm) hown (hts (.methodLink RX8 53 Lib.Math.min.name) (List.mem_of_getElem? (i := 3) rfl)) (hts (.static Lib.Math.min.name) (List.mem_of_getElem? (i := 4) rfl)) (hts (.initialized "java/lang/Math") (List.mem_of_getElem? (i := 5) rfl)) (hts (.code Lib.Math.min.name Lib.Math.min.code 2 (some .int)) (List.mem_of_getElem? (i := 6) rfl)) (Nat.le_of_ble_eq_true rfl) (Nat.le_of_ble_eq_true rfl) (Nat.zero_le _) (Nat.zero_le _) ⟨by decide, hg37⟩ dX8_hardness_37 ?_
    obtain ⟨hg40, hf⟩ := gd_s hf
    refine zv_mmax (rest := []) hx hb (hml.trans hl.1.symm) hown (hts (.methodLink RX8 66 Lib.Math.max.name) (List.mem_of_getElem? (i := 7) rfl)) (hts (.static Lib.Math.max.name) (List.mem_of_getElem? (i := 8) rfl)) (hts (.initialized "java/lang/Math") (List.mem_of_getElem? (i := 5) rfl)) (hts (.code Lib.Math.max.name Lib.Math.max.code 2 (some .int)) (List.mem_of_getElem? (i := 9) rfl)) (Nat.le_of_ble_eq_true rfl) (Nat.le_of_ble_eq_true rfl) (Nat.zero_le _) (Nat.zero_le _) ⟨by decide, hg40⟩ dX8_hardness_40 ?_
    cases hf
    exact hret H locs ls 43 dX8_hardness_43 hw
  · rw [if_pos c5] at hf
    refine lv_iconst (v := zI 0) hx hb dX8_hardness_8 rfl ?_
    cases hf
    exact hret H locs ls 9 dX8_hardness_9 hw
set_option maxHeartbeats 4000000 in
set_option maxRecDepth 100000 in
theorem tX8_hardness_c1 {l : Launch} {D : va_G} {A : Nat → Prop} {cI cZ : ClassId} {q : Nat → Nat} {σ : St} {x1 : Int} {x2 : Int} {r : Int} (hf : pX8_hardness_c1 σ x1 x2 = some r) : Met l yX8_hardness wsX8_hardness rmX8_hardness_c1 (va_Pc [.ref (q 1), .int (zI x1), .int (zI x2)] (CX D (TY cI cZ) A (wE q cI cZ σ))) (QI D (TY cI cZ) A (wE q cI cZ σ) (zI r)) 0 0 A := by
  refine opn (cc := cX8_hardness) (maxL := 4) (ret := (some .int)) (by decide) rfl (Nat.le_of_ble_eq_true rfl) (fun p e s m below meth c C ls hw hl => ?_)
  have hl : lv_has ls 4 [(0, .ref (q 1)), (1, .int (zI x1)), (2, .int (zI x2))] := hl
  rw [pX8_hardness_c1] at hf
  exact wX8_hardness_c1_0 C (rtI C) x1 x2 _ _ ls hw (lv_sub hl [0, 1, 2] rfl) hf
abbrev rmX4_hardnessOf : Room := { frames := 2, cells := 0, slots := 0, locals := 53 }
set_option maxHeartbeats 4000000 in
set_option maxRecDepth 100000 in
theorem wX4_hardnessOf_0 {p : Program} {l : Launch} {e : Env} {s : State} {m : MethodId} {args : Array Value} {below : List Frame} {meth : Method} {c : Code} {D : va_G} {A : Nat → Prop} {q : Nat → Nat} {cI cZ : ClassId} {Q : State → Prop} {σ : St} {r : Int} (C : Cx p s m args meth c D (TY cI cZ) cX4_hardnessOf (some .int) 2 wsX4_hardnessOf RX4) (hret : RtI p l e rmX4_hardnessOf s m args below meth c D A cX4_hardnessOf Q (wE q cI cZ σ) (zI r)) :
    ∀ (x1 : Int) (H : Heap) (locs : List Loc) (ls : Array Slot), Wd D A s (wE q cI cZ σ) H locs → lv_has ls 2 [(0, .ref (q 15)), (1, .int (zI x1))] → pX4_hardnessOf_0 σ x1 = some r → W p l e rmX4_hardnessOf s m args below meth c H locs 0 0 Q (F0 m 0 ls []) := by
  obtain ⟨hx, hb, hr, hml, hown, hts, hlk, hK, hN⟩ := id C
  intro x1 H locs ls hw hl hf
  rw [pX4_hardnessOf_0] at hf
  refine lv_aload_n hx hb dX4_hardnessOf_0 rfl (lv_at hl 0 rfl) ?_
  refine va_get (D := D) (ci := 4) (v := .ref (q 1)) (C := RX4) (T := TX4) (N := 9) hx hb hts (fun _ h => List.mem_cons_of_mem _ (List.mem_append_left _ (List.mem_append_right _ h))) hown hK hw.1 15 rfl rfl 0 (by decide) (hts (.fieldLink RX4 9 "EggThrones$Morning" "table" "LEggThrones$Table;") (List.mem_of_getElem? (i := 1) rfl)) (fun _ h9 => h9) rfl dX4_hardnessOf_1 ?_
  refine lv_iload_n hx hb dX4_hardnessOf_4 rfl (lv_at hl 1 rfl) ?_
  refine lv_aload_n hx hb dX4_hardnessOf_5 rfl (lv_at hl 0 rfl) ?_
  refine lv_iload_n hx hb dX4_hardnessOf_6 rfl (lv_at hl 1 rfl) ?_
  obtain ⟨r7, h7, hf⟩ := bd_s hf
  replace hf := bt_s hf
  refine gVi (As := [.int (zI x1)]) (rest := [.int (zI x1), .ref (q 1)]) C hw (tX4_boiledOf h7) (cwV 1 hts gX4_hardnessOf_X4_boiledOf rfl rfl rfl (by decide +kernel) ⟨Nat.le_of_ble_eq_true rfl, Nat.le_of_ble_eq_true rfl⟩) 4 15 rfl rfl rfl hl.1 rfl (Nat.le_of_ble_eq_true rfl) dX4_hardnessOf_7 (fun H locs hw => ?_)
  obtain ⟨r10, h10, hf⟩ := bd_s hf
  replace hf := bt_s hf
  refine gVi (As := [.int (zI x1), .int (zI r7)]) (rest := []) C hw (tX8_hardness_c1 h10) (cwV 2 hts gX4_hardnessOf_X8_hardness rfl rfl rfl (by decide +kernel) ⟨Nat.le_of_ble_eq_true rfl, Nat.le_of_ble_eq_true rfl⟩) 8 1 rfl rfl rfl hl.1 rfl (Nat.le_of_ble_eq_true rfl) dX4_hardnessOf_10 (fun H locs hw => ?_)
  cases hf
  exact hret H locs ls 13 dX4_hardnessOf_13 hw
set_option maxHeartbeats 4000000 in
set_option maxRecDepth 100000 in
theorem tX4_hardnessOf {l : Launch} {D : va_G} {A : Nat → Prop} {cI cZ : ClassId} {q : Nat → Nat} {σ : St} {x1 : Int} {r : Int} (hf : pX4_hardnessOf σ x1 = some r) : Met l yX4_hardnessOf wsX4_hardnessOf rmX4_hardnessOf (va_Pc [.ref (q 15), .int (zI x1)] (CX D (TY cI cZ) A (wE q cI cZ σ))) (QI D (TY cI cZ) A (wE q cI cZ σ) (zI r)) 0 0 A := by
  refine opn (cc := cX4_hardnessOf) (maxL := 2) (ret := (some .int)) (by decide) rfl (Nat.le_of_ble_eq_true rfl) (fun p e s m below meth c C ls hw hl => ?_)
  have hl : lv_has ls 2 [(0, .ref (q 15)), (1, .int (zI x1))] := hl
  rw [pX4_hardnessOf] at hf
  exact wX4_hardnessOf_0 C (rtI C) x1 _ _ ls hw (lv_sub hl [0, 1] rfl) hf
abbrev rmX4_pretenders : Room := { frames := 3, cells := 0, slots := 0, locals := 74 }
set_option maxHeartbeats 4000000 in
set_option maxRecDepth 100000 in
theorem wX4_pretenders_35 {p : Program} {l : Launch} {e : Env} {s : State} {m : MethodId} {args : Array Value} {below : List Frame} {meth : Method} {c : Code} {D : va_G} {A : Nat → Prop} {q : Nat → Nat} {cI cZ : ClassId} {Q : State → Prop} {σ : St} {r : Int} (C : Cx p s m args meth c D (TY cI cZ) cX4_pretenders (some .int) 3 wsX4_pretenders RX4) (hret : RtI p l e rmX4_pretenders s m args below meth c D A cX4_pretenders Q (wE q cI cZ σ) (zI r)) (k4 : Int → Int → Option (Int)) (hk4 : ∀ (x1 : Int) (x2 : Int) (H : Heap) (locs : List Loc) (ls : Array Slot), Wd D A s (wE q cI cZ σ) H locs → lv_has ls 3 [(0, .ref (q 15)), (1, .int (zI x1)), (2, .int (zI x2))] → k4 x1 x2 = some r → W p l e rmX4_pretenders s m args below meth c H locs 0 0 Q (F0 m 4 ls [])) :
    ∀ (x2 : Int) (t0 : Int) (t1 : Int) (H : Heap) (locs : List Loc) (ls : Array Slot), Wd D A s (wE q cI cZ σ) H locs → lv_has ls 3 [(0, .ref (q 15)), (2, .int (zI x2))] → pX4_pretenders_35 k4 σ x2 t0 t1 = some r → W p l e rmX4_pretenders s m args below meth c H locs 0 0 Q (F0 m 35 ls [.int (zI t1), .int (zI t0)]) := by
  obtain ⟨hx, hb, hr, hml, hown, hts, hlk, hK, hN⟩ := id C
  intro x2 t0 t1 H locs ls hw hl hf
  rw [pX4_pretenders_35] at hf
  refine zv_ior hx hb dX4_pretenders_35 ?_
  refine lv_istore_n (lv' := [(1, .int (zI (zOr t0 t1))), (0, .ref (q 15)), (2, .int (zI x2))]) hx hb dX4_pretenders_36 rfl hl (by decide) rfl (fun ls hl => ?_)
  refine lv_iinc (v := zI (x2 + 1)) (lv' := [(2, .int (zI (x2 + 1))), (1, .int (zI (zOr t0 t1))), (0, .ref (q 15))]) hx hb dX4_pretenders_37 hl (k := 2) rfl (zI_add _ _) (by decide) rfl (fun ls hl => ?_)
  refine lv_goto (tgt := 4) hx hb dX4_pretenders_40 (by decide) ?_
  exact hk4 (zOr t0 t1) (x2 + 1) H locs ls hw (lv_sub hl [2, 1, 0] rfl) hf
set_option maxHeartbeats 4000000 in
set_option maxRecDepth 100000 in
theorem wX4_pretenders_34 {p : Program} {l : Launch} {e : Env} {s : State} {m : MethodId} {args : Array Value} {below : List Frame} {meth : Method} {c : Code} {D : va_G} {A : Nat → Prop} {q : Nat → Nat} {cI cZ : ClassId} {Q : State → Prop} {σ : St} {r : Int} (C : Cx p s m args meth c D (TY cI cZ) cX4_pretenders (some .int) 3 wsX4_pretenders RX4) (hret : RtI p l e rmX4_pretenders s m args below meth c D A cX4_pretenders Q (wE q cI cZ σ) (zI r)) (k4 : Int → Int → Option (Int)) (hk4 : ∀ (x1 : Int) (x2 : Int) (H : Heap) (locs : List Loc) (ls : Array Slot), Wd D A s (wE q cI cZ σ) H locs → lv_has ls 3 [(0, .ref (q 15)), (1, .int (zI x1)), (2, .int (zI x2))] → k4 x1 x2 = some r → W p l e rmX4_pretenders s m args below meth c H locs 0 0 Q (F0 m 4 ls [])) :
    ∀ (x2 : Int) (t0 : Int) (H : Heap) (locs : List Loc) (ls : Array Slot), Wd D A s (wE q cI cZ σ) H locs → lv_has ls 3 [(0, .ref (q 15)), (2, .int (zI x2))] → pX4_pretenders_34 k4 σ x2 t0 = some r → W p l e rmX4_pretenders s m args below meth c H locs 0 0 Q (F0 m 34 ls [.int (zI t0)]) := by
  obtain ⟨hx, hb, hr, hml, hown, hts, hlk, hK, hN⟩ := id C
  intro x2 t0 H locs ls hw hl hf
  rw [pX4_pretenders_34] at hf
  refine lv_iconst (v := zI 0) hx hb dX4_pretenders_34 rfl ?_
  exact wX4_pretenders_35 C hret _ hk4 x2 t0 0 H locs ls hw (lv_sub hl [0, 1] rfl) hf
set_option maxHeartbeats 4000000 in
set_option maxRecDepth 100000 in
theorem wX4_pretenders_4 {p : Program} {l : Launch} {e : Env} {s : State} {m : MethodId} {args : Array Value} {below : List Frame} {meth : Method} {c : Code} {D : va_G} {A : Nat → Prop} {q : Nat → Nat} {cI cZ : ClassId} {Q : State → Prop} {σ : St} {r : Int} (C : Cx p s m args meth c D (TY cI cZ) cX4_pretenders (some .int) 3 wsX4_pretenders RX4) (hret : RtI p l e rmX4_pretenders s m args below meth c D A cX4_pretenders Q (wE q cI cZ σ) (zI r)) :
    ∀ (n : Nat) (x1 : Int) (x2 : Int) (H : Heap) (locs : List Loc) (ls : Array Slot), Wd D A s (wE q cI cZ σ) H locs → lv_has ls 3 [(0, .ref (q 15)), (1, .int (zI x1)), (2, .int (zI x2))] → pX4_pretenders_4 σ n x1 x2 = some r → W p l e rmX4_pretenders s m args below meth c H locs 0 0 Q (F0 m 4 ls []) := by
  obtain ⟨hx, hb, hr, hml, hown, hts, hlk, hK, hN⟩ := id C
  intro n
  induction n with
  | zero =>
    intro x1 x2 H locs ls hw hl hf
    exact absurd (show (none : Option (Int)) = some r from hf) (by simp)
  | succ n ih =>
    intro x1 x2 H locs ls hw hl hf
    rw [pX4_pretenders_4] at hf
    refine lv_iload_n hx hb dX4_pretenders_4 rfl (lv_at hl 2 rfl) ?_
    refine lv_bipush (v := zI 7) hx hb dX4_pretenders_5 (by decide +kernel) ?_
    obtain ⟨hg7, hf⟩ := gd_s hf
    refine zv_icmp_ge (tgt := 43) hx hb ⟨hg7, by decide⟩ dX4_pretenders_7 (by decide) (fun (c7 : 7 ≤ x2) => ?_) (fun (c7 : ¬ (7 ≤ x2)) => ?_)
    · rw [if_pos c7] at hf
      refine lv_iload_n hx hb dX4_pretenders_43 rfl (lv_at hl 1 rfl) ?_
      cases hf
      exact hret H locs ls 44 dX4_pretenders_44 hw
    · rw [if_neg c7] at hf
      refine lv_iload_n hx hb dX4_pretenders_10 rfl (lv_at hl 1 rfl) ?_
      refine lv_aload_n hx hb dX4_pretenders_11 rfl (lv_at hl 0 rfl) ?_
      refine lv_iload_n hx hb dX4_pretenders_12 rfl (lv_at hl 2 rfl) ?_
      obtain ⟨r13, h13, hf⟩ := bd_s hf
      replace hf := bt_s hf
      refine gVi (As := [.int (zI x2)]) (rest := [.int (zI x1)]) C hw (tX4_stateOf h13) (cwV 1 hts gX4_pretenders_X4_stateOf rfl rfl rfl (by decide +kernel) ⟨Nat.le_of_ble_eq_true rfl, Nat.le_of_ble_eq_true rfl⟩) 4 15 rfl rfl rfl hl.1 rfl (Nat.le_of_ble_eq_true rfl) dX4_pretenders_13 (fun H locs hw => ?_)
      refine lv_iconst (v := zI 2) hx hb dX4_pretenders_16 rfl ?_
      obtain ⟨hg17, hf⟩ := gd_s hf
      refine zv_icmp_ne (tgt := 34) hx hb ⟨hg17, by decide⟩ dX4_pretenders_17 (by decide) (fun (c17 : ¬ (r13 = 2)) => ?_) (fun (c17 : r13 = 2) => ?_)
      · rw [if_neg c17] at hf
        exact wX4_pretenders_34 C hret _ ih x2 x1 H locs ls hw (lv_sub hl [0, 2] rfl) hf
      · rw [if_pos c17] at hf
        refine lv_aload_n hx hb dX4_pretenders_20 rfl (lv_at hl 0 rfl) ?_
        refine lv_iload_n hx hb dX4_pretenders_21 rfl (lv_at hl 2 rfl) ?_
        obtain ⟨r22, h22, hf⟩ := bd_s hf
        replace hf := bt_s hf
        refine gVi (As := [.int (zI x2)]) (rest := [.int (zI x1)]) C hw (tX4_hardnessOf h22) (cwV 1 hts gX4_pretenders_X4_hardnessOf rfl rfl rfl (by decide +kernel) ⟨Nat.le_of_ble_eq_true rfl, Nat.le_of_ble_eq_true rfl⟩) 4 15 rfl rfl rfl hl.1 rfl (Nat.le_of_ble_eq_true rfl) dX4_pretenders_22 (fun H locs hw => ?_)
        obtain ⟨hg25, hf⟩ := gd_s hf
        refine zv_if_ne (tgt := 34) hx hb hg25 dX4_pretenders_25 (by decide) (fun (c25 : ¬ (r22 = 0)) => ?_) (fun (c25 : r22 = 0) => ?_)
        · rw [if_neg c25] at hf
          exact wX4_pretenders_34 C hret _ ih x2 x1 H locs ls hw (lv_sub hl [0, 2] rfl) hf
        · rw [if_pos c25] at hf
          refine lv_iconst (v := zI 1) hx hb dX4_pretenders_28 rfl ?_
          refine lv_iload_n hx hb dX4_pretenders_29 rfl (lv_at hl 2 rfl) ?_
          refine zv_ishl hx hb dX4_pretenders_30 ?_
          refine lv_goto (tgt := 35) hx hb dX4_pretenders_31 (by decide) ?_
          exact wX4_pretenders_35 C hret _ ih x2 x1 (zShl 1 x2) H locs ls hw (lv_sub hl [0, 2] rfl) hf
set_option maxHeartbeats 4000000 in
set_option maxRecDepth 100000 in
theorem wX4_pretenders_0 {p : Program} {l : Launch} {e : Env} {s : State} {m : MethodId} {args : Array Value} {below : List Frame} {meth : Method} {c : Code} {D : va_G} {A : Nat → Prop} {q : Nat → Nat} {cI cZ : ClassId} {Q : State → Prop} {σ : St} {r : Int} (C : Cx p s m args meth c D (TY cI cZ) cX4_pretenders (some .int) 3 wsX4_pretenders RX4) (hret : RtI p l e rmX4_pretenders s m args below meth c D A cX4_pretenders Q (wE q cI cZ σ) (zI r)) :
    ∀ (H : Heap) (locs : List Loc) (ls : Array Slot), Wd D A s (wE q cI cZ σ) H locs → lv_has ls 3 [(0, .ref (q 15))] → pX4_pretenders_0 σ = some r → W p l e rmX4_pretenders s m args below meth c H locs 0 0 Q (F0 m 0 ls []) := by
  obtain ⟨hx, hb, hr, hml, hown, hts, hlk, hK, hN⟩ := id C
  intro H locs ls hw hl hf
  rw [pX4_pretenders_0] at hf
  refine lv_iconst (v := zI 0) hx hb dX4_pretenders_0 rfl ?_
  refine lv_istore_n (lv' := [(1, .int (zI 0)), (0, .ref (q 15))]) hx hb dX4_pretenders_1 rfl hl (by decide) rfl (fun ls hl => ?_)
  refine lv_iconst (v := zI 0) hx hb dX4_pretenders_2 rfl ?_
  refine lv_istore_n (lv' := [(2, .int (zI 0)), (1, .int (zI 0)), (0, .ref (q 15))]) hx hb dX4_pretenders_3 rfl hl (by decide) rfl (fun ls hl => ?_)
  exact wX4_pretenders_4 C hret FU 0 0 H locs ls hw (lv_sub hl [2, 1, 0] rfl) hf
set_option maxHeartbeats 4000000 in
set_option maxRecDepth 100000 in
theorem tX4_pretenders {l : Launch} {D : va_G} {A : Nat → Prop} {cI cZ : ClassId} {q : Nat → Nat} {σ : St} {r : Int} (hf : pX4_pretenders σ = some r) : Met l yX4_pretenders wsX4_pretenders rmX4_pretenders (va_Pc [.ref (q 15)] (CX D (TY cI cZ) A (wE q cI cZ σ))) (QI D (TY cI cZ) A (wE q cI cZ σ) (zI r)) 0 0 A := by
  refine opn (cc := cX4_pretenders) (maxL := 3) (ret := (some .int)) (by decide) rfl (Nat.le_of_ble_eq_true rfl) (fun p e s m below meth c C ls hw hl => ?_)
  have hl : lv_has ls 3 [(0, .ref (q 15))] := hl
  rw [pX4_pretenders] at hf
  exact wX4_pretenders_0 C (rtI C) _ _ ls hw (lv_sub hl [0] rfl) hf
abbrev rmX8_sizeOf_c1 : Room := { frames := 1, cells := 0, slots := 0, locals := 21 }
set_option maxHeartbeats 4000000 in
set_option maxRecDepth 100000 in
theorem wX8_sizeOf_c1_0 {p : Program} {l : Launch} {e : Env} {s : State} {m : MethodId} {args : Array Value} {below : List Frame} {meth : Method} {c : Code} {D : va_G} {A : Nat → Prop} {q : Nat → Nat} {cI cZ : ClassId} {Q : State → Prop} {σ : St} {r : Int} (C : Cx p s m args meth c D (TY cI cZ) cX8_sizeOf (some .int) 2 wsX8_sizeOf RX8) (hret : RtI p l e rmX8_sizeOf_c1 s m args below meth c D A cX8_sizeOf Q (wE q cI cZ σ) (zI r)) :
    ∀ (x1 : Int) (H : Heap) (locs : List Loc) (ls : Array Slot), Wd D A s (wE q cI cZ σ) H locs → lv_has ls 2 [(0, .ref (q 1)), (1, .int (zI x1))] → pX8_sizeOf_c1_0 σ x1 = some r → W p l e rmX8_sizeOf_c1 s m args below meth c H locs 0 0 Q (F0 m 0 ls []) := by
  obtain ⟨hx, hb, hr, hml, hown, hts, hlk, hK, hN⟩ := id C
  intro x1 H locs ls hw hl hf
  rw [pX8_sizeOf_c1_0] at hf
  refine lv_aload_n hx hb dX8_sizeOf_0 rfl (lv_at hl 0 rfl) ?_
  refine lv_iload_n hx hb dX8_sizeOf_1 rfl (lv_at hl 1 rfl) ?_
  obtain ⟨r2, h2, hf⟩ := bd_s hf
  replace hf := bt_s hf
  refine gVi (As := [.int (zI x1)]) (rest := []) C hw (tX8_hasEgg_c1 h2) (cwV 1 hts gX8_sizeOf_X8_hasEgg rfl rfl rfl (by decide +kernel) ⟨Nat.le_of_ble_eq_true rfl, Nat.le_of_ble_eq_true rfl⟩) 8 1 rfl rfl rfl hl.1 rfl (Nat.le_of_ble_eq_true rfl) dX8_sizeOf_2 (fun H locs hw => ?_)
  obtain ⟨hg5, hf⟩ := gd_s hf
  refine zv_if_eq (tgt := 17) hx hb hg5 dX8_sizeOf_5 (by decide) (fun (c5 : r2 = 0) => ?_) (fun (c5 : ¬ (r2 = 0)) => ?_)
  · rw [if_pos c5] at hf
    refine lv_iconst (v := zI 0) hx hb dX8_sizeOf_17 rfl ?_
    cases hf
    exact hret H locs ls 18 dX8_sizeOf_18 hw
  · rw [if_neg c5] at hf
    refine lv_aload_n hx hb dX8_sizeOf_8 rfl (lv_at hl 0 rfl) ?_
    refine va_get (D := D) (ci := 8) (v := .ref (q 3)) (C := RX8) (T := TX8) (N := 10) hx hb hts (fun _ h => List.mem_cons_of_mem _ (List.mem_append_right _ h)) hown hK hw.1 1 rfl rfl 6 (by decide) (hts (.fieldLink RX8 15 "EggThrones$Table" "sizes" "[I") (List.mem_of_getElem? (i := 1) rfl)) (fun _ h9 => h9) rfl dX8_sizeOf_9 ?_
    refine lv_iload_n hx hb dX8_sizeOf_12 rfl (lv_at hl 1 rfl) ?_
    obtain ⟨hi13, hf⟩ := gd_s hf
    refine zv_iald (D := D) hx hb hK hw.1 3 0 rfl rfl hi13 (by decide) dX8_sizeOf_13 ?_
    refine lv_goto (tgt := 18) hx hb dX8_sizeOf_14 (by decide) ?_
    cases hf
    exact hret H locs ls 18 dX8_sizeOf_18 hw
set_option maxHeartbeats 4000000 in
set_option maxRecDepth 100000 in
theorem tX8_sizeOf_c1 {l : Launch} {D : va_G} {A : Nat → Prop} {cI cZ : ClassId} {q : Nat → Nat} {σ : St} {x1 : Int} {r : Int} (hf : pX8_sizeOf_c1 σ x1 = some r) : Met l yX8_sizeOf wsX8_sizeOf rmX8_sizeOf_c1 (va_Pc [.ref (q 1), .int (zI x1)] (CX D (TY cI cZ) A (wE q cI cZ σ))) (QI D (TY cI cZ) A (wE q cI cZ σ) (zI r)) 0 0 A := by
  refine opn (cc := cX8_sizeOf) (maxL := 2) (ret := (some .int)) (by decide) rfl (Nat.le_of_ble_eq_true rfl) (fun p e s m below meth c C ls hw hl => ?_)
  have hl : lv_has ls 2 [(0, .ref (q 1)), (1, .int (zI x1))] := hl
  rw [pX8_sizeOf_c1] at hf
  exact wX8_sizeOf_c1_0 C (rtI C) x1 _ _ ls hw (lv_sub hl [0, 1] rfl) hf
abbrev rmX8_reign_c1 : Room := { frames := 2, cells := 0, slots := 0, locals := 53 }
set_option maxHeartbeats 4000000 in
set_option maxRecDepth 100000 in
theorem wX8_reign_c1_0 {p : Program} {l : Launch} {e : Env} {s : State} {m : MethodId} {args : Array Value} {below : List Frame} {meth : Method} {c : Code} {D : va_G} {A : Nat → Prop} {q : Nat → Nat} {cI cZ : ClassId} {Q : State → Prop} {σ : St} {r : Int} (C : Cx p s m args meth c D (TY cI cZ) cX8_reign (some .int) 3 wsX8_reign RX8) (hret : RtI p l e rmX8_reign_c1 s m args below meth c D A cX8_reign Q (wE q cI cZ σ) (zI r)) :
    ∀ (x1 : Int) (x2 : Int) (H : Heap) (locs : List Loc) (ls : Array Slot), Wd D A s (wE q cI cZ σ) H locs → lv_has ls 3 [(0, .ref (q 1)), (1, .int (zI x1)), (2, .int (zI x2))] → pX8_reign_c1_0 σ x1 x2 = some r → W p l e rmX8_reign_c1 s m args below meth c H locs 0 0 Q (F0 m 0 ls []) := by
  obtain ⟨hx, hb, hr, hml, hown, hts, hlk, hK, hN⟩ := id C
  intro x1 x2 H locs ls hw hl hf
  rw [pX8_reign_c1_0] at hf
  refine lv_iconst (v := zI 1) hx hb dX8_reign_0 rfl ?_
  refine lv_aload_n hx hb dX8_reign_1 rfl (lv_at hl 0 rfl) ?_
  refine lv_iload_n hx hb dX8_reign_2 rfl (lv_at hl 1 rfl) ?_
  refine lv_iload_n hx hb dX8_reign_3 rfl (lv_at hl 2 rfl) ?_
  obtain ⟨r4, h4, hf⟩ := bd_s hf
  replace hf := bt_s hf
  refine gVi (As := [.int (zI x1), .int (zI x2)]) (rest := [.int (zI 1)]) C hw (tX8_hardness_c1 h4) (cwV 2 hts gX8_reign_X8_hardness rfl rfl rfl (by decide +kernel) ⟨Nat.le_of_ble_eq_true rfl, Nat.le_of_ble_eq_true rfl⟩) 8 1 rfl rfl rfl hl.1 rfl (Nat.le_of_ble_eq_true rfl) dX8_reign_4 (fun H locs hw => ?_)
  refine lv_bipush (v := zI 10) hx hb dX8_reign_7 (by decide +kernel) ?_
  obtain ⟨hz9, hf⟩ := gd_s hf
  refine zv_idiv hx hb hz9 dX8_reign_9 ?_
  refine zv_iadd hx hb dX8_reign_10 ?_
  refine lv_aload_n hx hb dX8_reign_11 rfl (lv_at hl 0 rfl) ?_
  refine lv_iload_n hx hb dX8_reign_12 rfl (lv_at hl 1 rfl) ?_
  obtain ⟨r13, h13, hf⟩ := bd_s hf
  replace hf := bt_s hf
  refine gVi (As := [.int (zI x1)]) (rest := [.int (zI (1 + (r4 / 10)))]) C hw (tX8_sizeOf_c1 h13) (cwV 1 hts gX8_reign_X8_sizeOf rfl rfl rfl (by decide +kernel) ⟨Nat.le_of_ble_eq_true rfl, Nat.le_of_ble_eq_true rfl⟩) 8 1 rfl rfl rfl hl.1 rfl (Nat.le_of_ble_eq_true rfl) dX8_reign_13 (fun H locs hw => ?_)
  refine zv_iadd hx hb dX8_reign_16 ?_
  cases hf
  exact hret H locs ls 17 dX8_reign_17 hw
set_option maxHeartbeats 4000000 in
set_option maxRecDepth 100000 in
theorem tX8_reign_c1 {l : Launch} {D : va_G} {A : Nat → Prop} {cI cZ : ClassId} {q : Nat → Nat} {σ : St} {x1 : Int} {x2 : Int} {r : Int} (hf : pX8_reign_c1 σ x1 x2 = some r) : Met l yX8_reign wsX8_reign rmX8_reign_c1 (va_Pc [.ref (q 1), .int (zI x1), .int (zI x2)] (CX D (TY cI cZ) A (wE q cI cZ σ))) (QI D (TY cI cZ) A (wE q cI cZ σ) (zI r)) 0 0 A := by
  refine opn (cc := cX8_reign) (maxL := 3) (ret := (some .int)) (by decide) rfl (Nat.le_of_ble_eq_true rfl) (fun p e s m below meth c C ls hw hl => ?_)
  have hl : lv_has ls 3 [(0, .ref (q 1)), (1, .int (zI x1)), (2, .int (zI x2))] := hl
  rw [pX8_reign_c1] at hf
  exact wX8_reign_c1_0 C (rtI C) x1 x2 _ _ ls hw (lv_sub hl [0, 1, 2] rfl) hf
abbrev rmX4_reignOf : Room := { frames := 3, cells := 0, slots := 0, locals := 75 }
set_option maxHeartbeats 4000000 in
set_option maxRecDepth 100000 in
theorem wX4_reignOf_0 {p : Program} {l : Launch} {e : Env} {s : State} {m : MethodId} {args : Array Value} {below : List Frame} {meth : Method} {c : Code} {D : va_G} {A : Nat → Prop} {q : Nat → Nat} {cI cZ : ClassId} {Q : State → Prop} {σ : St} {r : Int} (C : Cx p s m args meth c D (TY cI cZ) cX4_reignOf (some .int) 2 wsX4_reignOf RX4) (hret : RtI p l e rmX4_reignOf s m args below meth c D A cX4_reignOf Q (wE q cI cZ σ) (zI r)) :
    ∀ (x1 : Int) (H : Heap) (locs : List Loc) (ls : Array Slot), Wd D A s (wE q cI cZ σ) H locs → lv_has ls 2 [(0, .ref (q 15)), (1, .int (zI x1))] → pX4_reignOf_0 σ x1 = some r → W p l e rmX4_reignOf s m args below meth c H locs 0 0 Q (F0 m 0 ls []) := by
  obtain ⟨hx, hb, hr, hml, hown, hts, hlk, hK, hN⟩ := id C
  intro x1 H locs ls hw hl hf
  rw [pX4_reignOf_0] at hf
  refine lv_aload_n hx hb dX4_reignOf_0 rfl (lv_at hl 0 rfl) ?_
  refine va_get (D := D) (ci := 4) (v := .ref (q 1)) (C := RX4) (T := TX4) (N := 9) hx hb hts (fun _ h => List.mem_cons_of_mem _ (List.mem_append_left _ (List.mem_append_right _ h))) hown hK hw.1 15 rfl rfl 0 (by decide) (hts (.fieldLink RX4 9 "EggThrones$Morning" "table" "LEggThrones$Table;") (List.mem_of_getElem? (i := 1) rfl)) (fun _ h9 => h9) rfl dX4_reignOf_1 ?_
  refine lv_iload_n hx hb dX4_reignOf_4 rfl (lv_at hl 1 rfl) ?_
  refine lv_aload_n hx hb dX4_reignOf_5 rfl (lv_at hl 0 rfl) ?_
  refine lv_iload_n hx hb dX4_reignOf_6 rfl (lv_at hl 1 rfl) ?_
  obtain ⟨r7, h7, hf⟩ := bd_s hf
  replace hf := bt_s hf
  refine gVi (As := [.int (zI x1)]) (rest := [.int (zI x1), .ref (q 1)]) C hw (tX4_boiledOf h7) (cwV 1 hts gX4_reignOf_X4_boiledOf rfl rfl rfl (by decide +kernel) ⟨Nat.le_of_ble_eq_true rfl, Nat.le_of_ble_eq_true rfl⟩) 4 15 rfl rfl rfl hl.1 rfl (Nat.le_of_ble_eq_true rfl) dX4_reignOf_7 (fun H locs hw => ?_)
  obtain ⟨r10, h10, hf⟩ := bd_s hf
  replace hf := bt_s hf
  refine gVi (As := [.int (zI x1), .int (zI r7)]) (rest := []) C hw (tX8_reign_c1 h10) (cwV 2 hts gX4_reignOf_X8_reign rfl rfl rfl (by decide +kernel) ⟨Nat.le_of_ble_eq_true rfl, Nat.le_of_ble_eq_true rfl⟩) 8 1 rfl rfl rfl hl.1 rfl (Nat.le_of_ble_eq_true rfl) dX4_reignOf_10 (fun H locs hw => ?_)
  cases hf
  exact hret H locs ls 13 dX4_reignOf_13 hw
set_option maxHeartbeats 4000000 in
set_option maxRecDepth 100000 in
theorem tX4_reignOf {l : Launch} {D : va_G} {A : Nat → Prop} {cI cZ : ClassId} {q : Nat → Nat} {σ : St} {x1 : Int} {r : Int} (hf : pX4_reignOf σ x1 = some r) : Met l yX4_reignOf wsX4_reignOf rmX4_reignOf (va_Pc [.ref (q 15), .int (zI x1)] (CX D (TY cI cZ) A (wE q cI cZ σ))) (QI D (TY cI cZ) A (wE q cI cZ σ) (zI r)) 0 0 A := by
  refine opn (cc := cX4_reignOf) (maxL := 2) (ret := (some .int)) (by decide) rfl (Nat.le_of_ble_eq_true rfl) (fun p e s m below meth c C ls hw hl => ?_)
  have hl : lv_has ls 2 [(0, .ref (q 15)), (1, .int (zI x1))] := hl
  rw [pX4_reignOf] at hf
  exact wX4_reignOf_0 C (rtI C) x1 _ _ ls hw (lv_sub hl [0, 1] rfl) hf
abbrev rmX4_heir : Room := { frames := 4, cells := 0, slots := 0, locals := 96 }
set_option maxHeartbeats 4000000 in
set_option maxRecDepth 100000 in
theorem wX4_heir_39 {p : Program} {l : Launch} {e : Env} {s : State} {m : MethodId} {args : Array Value} {below : List Frame} {meth : Method} {c : Code} {D : va_G} {A : Nat → Prop} {q : Nat → Nat} {cI cZ : ClassId} {Q : State → Prop} {σ : St} {r : Int} (C : Cx p s m args meth c D (TY cI cZ) cX4_heir (some .int) 3 wsX4_heir RX4) (hret : RtI p l e rmX4_heir s m args below meth c D A cX4_heir Q (wE q cI cZ σ) (zI r)) (k4 : Int → Int → Option (Int)) (hk4 : ∀ (x1 : Int) (x2 : Int) (H : Heap) (locs : List Loc) (ls : Array Slot), Wd D A s (wE q cI cZ σ) H locs → lv_has ls 3 [(0, .ref (q 15)), (1, .int (zI x1)), (2, .int (zI x2))] → k4 x1 x2 = some r → W p l e rmX4_heir s m args below meth c H locs 0 0 Q (F0 m 4 ls [])) :
    ∀ (x1 : Int) (x2 : Int) (H : Heap) (locs : List Loc) (ls : Array Slot), Wd D A s (wE q cI cZ σ) H locs → lv_has ls 3 [(0, .ref (q 15)), (1, .int (zI x1)), (2, .int (zI x2))] → pX4_heir_39 k4 σ x1 x2 = some r → W p l e rmX4_heir s m args below meth c H locs 0 0 Q (F0 m 39 ls []) := by
  obtain ⟨hx, hb, hr, hml, hown, hts, hlk, hK, hN⟩ := id C
  intro x1 x2 H locs ls hw hl hf
  rw [pX4_heir_39] at hf
  refine lv_iinc (v := zI (x2 + 1)) (lv' := [(2, .int (zI (x2 + 1))), (0, .ref (q 15)), (1, .int (zI x1))]) hx hb dX4_heir_39 hl (k := 2) rfl (zI_add _ _) (by decide) rfl (fun ls hl => ?_)
  refine lv_goto (tgt := 4) hx hb dX4_heir_42 (by decide) ?_
  exact hk4 x1 (x2 + 1) H locs ls hw (lv_sub hl [1, 2, 0] rfl) hf
set_option maxHeartbeats 4000000 in
set_option maxRecDepth 100000 in
theorem wX4_heir_37 {p : Program} {l : Launch} {e : Env} {s : State} {m : MethodId} {args : Array Value} {below : List Frame} {meth : Method} {c : Code} {D : va_G} {A : Nat → Prop} {q : Nat → Nat} {cI cZ : ClassId} {Q : State → Prop} {σ : St} {r : Int} (C : Cx p s m args meth c D (TY cI cZ) cX4_heir (some .int) 3 wsX4_heir RX4) (hret : RtI p l e rmX4_heir s m args below meth c D A cX4_heir Q (wE q cI cZ σ) (zI r)) (k4 : Int → Int → Option (Int)) (hk4 : ∀ (x1 : Int) (x2 : Int) (H : Heap) (locs : List Loc) (ls : Array Slot), Wd D A s (wE q cI cZ σ) H locs → lv_has ls 3 [(0, .ref (q 15)), (1, .int (zI x1)), (2, .int (zI x2))] → k4 x1 x2 = some r → W p l e rmX4_heir s m args below meth c H locs 0 0 Q (F0 m 4 ls [])) :
    ∀ (x2 : Int) (H : Heap) (locs : List Loc) (ls : Array Slot), Wd D A s (wE q cI cZ σ) H locs → lv_has ls 3 [(0, .ref (q 15)), (2, .int (zI x2))] → pX4_heir_37 k4 σ x2 = some r → W p l e rmX4_heir s m args below meth c H locs 0 0 Q (F0 m 37 ls []) := by
  obtain ⟨hx, hb, hr, hml, hown, hts, hlk, hK, hN⟩ := id C
  intro x2 H locs ls hw hl hf
  rw [pX4_heir_37] at hf
  refine lv_iload_n hx hb dX4_heir_37 rfl (lv_at hl 1 rfl) ?_
  refine lv_istore_n (lv' := [(1, .int (zI x2)), (0, .ref (q 15)), (2, .int (zI x2))]) hx hb dX4_heir_38 rfl hl (by decide) rfl (fun ls hl => ?_)
  exact wX4_heir_39 C hret _ hk4 x2 x2 H locs ls hw (lv_sub hl [1, 0, 2] rfl) hf
set_option maxHeartbeats 4000000 in
set_option maxRecDepth 100000 in
theorem wX4_heir_4 {p : Program} {l : Launch} {e : Env} {s : State} {m : MethodId} {args : Array Value} {below : List Frame} {meth : Method} {c : Code} {D : va_G} {A : Nat → Prop} {q : Nat → Nat} {cI cZ : ClassId} {Q : State → Prop} {σ : St} {r : Int} (C : Cx p s m args meth c D (TY cI cZ) cX4_heir (some .int) 3 wsX4_heir RX4) (hret : RtI p l e rmX4_heir s m args below meth c D A cX4_heir Q (wE q cI cZ σ) (zI r)) :
    ∀ (n : Nat) (x1 : Int) (x2 : Int) (H : Heap) (locs : List Loc) (ls : Array Slot), Wd D A s (wE q cI cZ σ) H locs → lv_has ls 3 [(0, .ref (q 15)), (1, .int (zI x1)), (2, .int (zI x2))] → pX4_heir_4 σ n x1 x2 = some r → W p l e rmX4_heir s m args below meth c H locs 0 0 Q (F0 m 4 ls []) := by
  obtain ⟨hx, hb, hr, hml, hown, hts, hlk, hK, hN⟩ := id C
  intro n
  induction n with
  | zero =>
    intro x1 x2 H locs ls hw hl hf
    exact absurd (show (none : Option (Int)) = some r from hf) (by simp)
  | succ n ih =>
    intro x1 x2 H locs ls hw hl hf
    rw [pX4_heir_4] at hf
    refine lv_iload_n hx hb dX4_heir_4 rfl (lv_at hl 2 rfl) ?_
    refine lv_bipush (v := zI 7) hx hb dX4_heir_5 (by decide +kernel) ?_
    obtain ⟨hg7, hf⟩ := gd_s hf
    refine zv_icmp_ge (tgt := 45) hx hb ⟨hg7, by decide⟩ dX4_heir_7 (by decide) (fun (c7 : 7 ≤ x2) => ?_) (fun (c7 : ¬ (7 ≤ x2)) => ?_)
    · rw [if_pos c7] at hf
      refine lv_iload_n hx hb dX4_heir_45 rfl (lv_at hl 1 rfl) ?_
      cases hf
      exact hret H locs ls 46 dX4_heir_46 hw
    · rw [if_neg c7] at hf
      refine lv_aload_n hx hb dX4_heir_10 rfl (lv_at hl 0 rfl) ?_
      refine lv_iload_n hx hb dX4_heir_11 rfl (lv_at hl 2 rfl) ?_
      obtain ⟨r12, h12, hf⟩ := bd_s hf
      replace hf := bt_s hf
      refine gVi (As := [.int (zI x2)]) (rest := []) C hw (tX4_stateOf h12) (cwV 1 hts gX4_heir_X4_stateOf rfl rfl rfl (by decide +kernel) ⟨Nat.le_of_ble_eq_true rfl, Nat.le_of_ble_eq_true rfl⟩) 4 15 rfl rfl rfl hl.1 rfl (Nat.le_of_ble_eq_true rfl) dX4_heir_12 (fun H locs hw => ?_)
      refine lv_iconst (v := zI 2) hx hb dX4_heir_15 rfl ?_
      obtain ⟨hg16, hf⟩ := gd_s hf
      refine zv_icmp_ne (tgt := 39) hx hb ⟨hg16, by decide⟩ dX4_heir_16 (by decide) (fun (c16 : ¬ (r12 = 2)) => ?_) (fun (c16 : r12 = 2) => ?_)
      · rw [if_neg c16] at hf
        exact wX4_heir_39 C hret _ ih x1 x2 H locs ls hw (lv_sub hl [0, 1, 2] rfl) hf
      · rw [if_pos c16] at hf
        refine lv_iload_n hx hb dX4_heir_19 rfl (lv_at hl 1 rfl) ?_
        refine lv_iconst (v := zI (-1)) hx hb dX4_heir_20 rfl ?_
        obtain ⟨hg21, hf⟩ := gd_s hf
        refine zv_icmp_eq (tgt := 37) hx hb ⟨hg21, by decide⟩ dX4_heir_21 (by decide) (fun (c21 : x1 = (-1)) => ?_) (fun (c21 : ¬ (x1 = (-1))) => ?_)
        · rw [if_pos c21] at hf
          exact wX4_heir_37 C hret _ ih x2 H locs ls hw (lv_sub hl [0, 2] rfl) hf
        · rw [if_neg c21] at hf
          refine lv_aload_n hx hb dX4_heir_24 rfl (lv_at hl 0 rfl) ?_
          refine lv_iload_n hx hb dX4_heir_25 rfl (lv_at hl 2 rfl) ?_
          obtain ⟨r26, h26, hf⟩ := bd_s hf
          replace hf := bt_s hf
          refine gVi (As := [.int (zI x2)]) (rest := []) C hw (tX4_reignOf h26) (cwV 1 hts gX4_heir_X4_reignOf rfl rfl rfl (by decide +kernel) ⟨Nat.le_of_ble_eq_true rfl, Nat.le_of_ble_eq_true rfl⟩) 4 15 rfl rfl rfl hl.1 rfl (Nat.le_of_ble_eq_true rfl) dX4_heir_26 (fun H locs hw => ?_)
          refine lv_aload_n hx hb dX4_heir_29 rfl (lv_at hl 0 rfl) ?_
          refine lv_iload_n hx hb dX4_heir_30 rfl (lv_at hl 1 rfl) ?_
          obtain ⟨r31, h31, hf⟩ := bd_s hf
          replace hf := bt_s hf
          refine gVi (As := [.int (zI x1)]) (rest := [.int (zI r26)]) C hw (tX4_reignOf h31) (cwV 1 hts gX4_heir_X4_reignOf rfl rfl rfl (by decide +kernel) ⟨Nat.le_of_ble_eq_true rfl, Nat.le_of_ble_eq_true rfl⟩) 4 15 rfl rfl rfl hl.1 rfl (Nat.le_of_ble_eq_true rfl) dX4_heir_31 (fun H locs hw => ?_)
          obtain ⟨hg34, hf⟩ := gd_s hf
          refine zv_icmp_le (tgt := 39) hx hb hg34 dX4_heir_34 (by decide) (fun (c34 : r26 ≤ r31) => ?_) (fun (c34 : ¬ (r26 ≤ r31)) => ?_)
          · rw [if_pos c34] at hf
            exact wX4_heir_39 C hret _ ih x1 x2 H locs ls hw (lv_sub hl [0, 1, 2] rfl) hf
          · rw [if_neg c34] at hf
            exact wX4_heir_37 C hret _ ih x2 H locs ls hw (lv_sub hl [0, 2] rfl) hf
set_option maxHeartbeats 4000000 in
set_option maxRecDepth 100000 in
theorem wX4_heir_0 {p : Program} {l : Launch} {e : Env} {s : State} {m : MethodId} {args : Array Value} {below : List Frame} {meth : Method} {c : Code} {D : va_G} {A : Nat → Prop} {q : Nat → Nat} {cI cZ : ClassId} {Q : State → Prop} {σ : St} {r : Int} (C : Cx p s m args meth c D (TY cI cZ) cX4_heir (some .int) 3 wsX4_heir RX4) (hret : RtI p l e rmX4_heir s m args below meth c D A cX4_heir Q (wE q cI cZ σ) (zI r)) :
    ∀ (H : Heap) (locs : List Loc) (ls : Array Slot), Wd D A s (wE q cI cZ σ) H locs → lv_has ls 3 [(0, .ref (q 15))] → pX4_heir_0 σ = some r → W p l e rmX4_heir s m args below meth c H locs 0 0 Q (F0 m 0 ls []) := by
  obtain ⟨hx, hb, hr, hml, hown, hts, hlk, hK, hN⟩ := id C
  intro H locs ls hw hl hf
  rw [pX4_heir_0] at hf
  refine lv_iconst (v := zI (-1)) hx hb dX4_heir_0 rfl ?_
  refine lv_istore_n (lv' := [(1, .int (zI (-1))), (0, .ref (q 15))]) hx hb dX4_heir_1 rfl hl (by decide) rfl (fun ls hl => ?_)
  refine lv_iconst (v := zI 0) hx hb dX4_heir_2 rfl ?_
  refine lv_istore_n (lv' := [(2, .int (zI 0)), (1, .int (zI (-1))), (0, .ref (q 15))]) hx hb dX4_heir_3 rfl hl (by decide) rfl (fun ls hl => ?_)
  exact wX4_heir_4 C hret FU (-1) 0 H locs ls hw (lv_sub hl [2, 1, 0] rfl) hf
set_option maxHeartbeats 4000000 in
set_option maxRecDepth 100000 in
theorem tX4_heir {l : Launch} {D : va_G} {A : Nat → Prop} {cI cZ : ClassId} {q : Nat → Nat} {σ : St} {r : Int} (hf : pX4_heir σ = some r) : Met l yX4_heir wsX4_heir rmX4_heir (va_Pc [.ref (q 15)] (CX D (TY cI cZ) A (wE q cI cZ σ))) (QI D (TY cI cZ) A (wE q cI cZ σ) (zI r)) 0 0 A := by
  refine opn (cc := cX4_heir) (maxL := 3) (ret := (some .int)) (by decide) rfl (Nat.le_of_ble_eq_true rfl) (fun p e s m below meth c C ls hw hl => ?_)
  have hl : lv_has ls 3 [(0, .ref (q 15))] := hl
  rw [pX4_heir] at hf
  exact wX4_heir_0 C (rtI C) _ _ ls hw (lv_sub hl [0] rfl) hf
