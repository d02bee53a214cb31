abbrev rmX11_write : Room := { frames := 2, cells := 0, slots := 0, locals := 46 }
set_option maxHeartbeats 4000000 in
set_option maxRecDepth 100000 in
theorem wX11_write_0 {p : Program} {l : Launch} {e : Env} {s : State} {m : MethodId} {args : Array Value} {below : List Frame} {meth : Method} {c : Code} {D : va_G} {A : Nat → Prop} {q : Nat → Nat} {cI cZ : ClassId} {Q : State → Prop} {r : Int} {τ : St} (C : Cx p s m args meth c D (TY cI cZ) cX11_write (some .int) 3 wsX11_write RX11) (hret : RtI p l e rmX11_write s m args below meth c D A cX11_write Q (wM q cI cZ τ) (zI r)) :
    ∀ (σ : St) (x1 : Int) (x2 : Int) (H : Heap) (locs : List Loc) (ls : Array Slot), Wd D A s (wM q cI cZ σ) H locs → lv_has ls 3 [(0, .ref (q 0)), (1, .int (zI x1)), (2, .int (zI x2))] → pX11_write_0 σ x1 x2 = some (r, τ) → W p l e rmX11_write s m args below meth c H locs 0 0 Q (F0 m 0 ls []) := by
  obtain ⟨hx, hb, hr, hml, hown, hts, hlk, hK, hN⟩ := id C
  intro σ x1 x2 H locs ls hw hl hf
  rw [pX11_write_0] at hf
  refine lv_aload_n hx hb dX11_write_0 rfl (lv_at hl 0 rfl) ?_
  refine lv_iload_n hx hb dX11_write_1 rfl (lv_at hl 1 rfl) ?_
  obtain ⟨r2, h2, hf⟩ := bd_s hf
  replace hf := bt_s hf
  refine gVi (As := [.int (zI x1)]) (rest := []) C hw (tX11_isEgg h2) (cwV 1 hts gX11_write_X11_isEgg rfl rfl rfl (by decide +kernel) ⟨Nat.le_of_ble_eq_true rfl, Nat.le_of_ble_eq_true rfl⟩) 11 0 rfl rfl rfl hl.1 rfl (Nat.le_of_ble_eq_true rfl) dX11_write_2 (fun H locs hw => ?_)
  obtain ⟨hg5, hf⟩ := gd_s hf
  refine zv_if_ne (tgt := 11) hx hb hg5 dX11_write_5 (by decide) (fun (c5 : ¬ (r2 = 0)) => ?_) (fun (c5 : r2 = 0) => ?_)
  · rw [if_neg c5] at hf
    refine lv_iload_n hx hb dX11_write_11 rfl (lv_at hl 2 rfl) ?_
    obtain ⟨hz12, hf⟩ := gd_s hf
    refine zv_i2l hx hb hz12 dX11_write_12 ?_
    refine lv_lconst (v := zL 0) hx hb dX11_write_13 (by decide +kernel) ?_
    refine zv_ldc2 hx hb 5 (by decide +kernel) hown (hts (.constantLong RX11 288 (5)) (List.mem_of_getElem? (i := 2) rfl)) dX11_write_14 ?_
    obtain ⟨r17, h17, hf⟩ := bd_s hf
    replace hf := bt_s hf
    refine gSi (As := [.long (zL x2), .long (zL 0), .long (zL 5)]) (rest := []) C hw (tX11_in h17) (va_cwS 3 hts gX11_write_X11_in rfl rfl rfl (by decide +kernel) ⟨Nat.le_of_ble_eq_true rfl, Nat.le_of_ble_eq_true rfl⟩) rfl hl.1 rfl (Nat.le_of_ble_eq_true rfl) dX11_write_17 (fun H locs hw => ?_)
    obtain ⟨hg20, hf⟩ := gd_s hf
    refine zv_if_ne (tgt := 26) hx hb hg20 dX11_write_20 (by decide) (fun (c20 : ¬ (r17 = 0)) => ?_) (fun (c20 : r17 = 0) => ?_)
    · rw [if_neg c20] at hf
      refine lv_aload_n hx hb dX11_write_26 rfl (lv_at hl 0 rfl) ?_
      refine va_get (D := D) (ci := 11) (v := .int (zI (σ.1 14))) (C := RX11) (T := TX11) (N := 40) hx hb hts (fun _ h => List.mem_cons_of_mem _ (List.mem_append_right _ h)) hown hK hw.1 0 rfl rfl 35 (by decide) (hts (.fieldLink RX11 165 "EggThronesModel" "booked" "I") (List.mem_of_getElem? (i := 4) rfl)) (fun _ h9 => h9) rfl dX11_write_27 ?_
      refine lv_bipush (v := zI 15) hx hb dX11_write_30 (by decide +kernel) ?_
      obtain ⟨hg32, hf⟩ := gd_s hf
      refine zv_icmp_ne (tgt := 38) hx hb ⟨hg32, by decide⟩ dX11_write_32 (by decide) (fun (c32 : ¬ ((σ.1 14) = 15)) => ?_) (fun (c32 : (σ.1 14) = 15) => ?_)
      · rw [if_neg c32] at hf
        refine lv_aload_n hx hb dX11_write_38 rfl (lv_at hl 0 rfl) ?_
        refine va_get (D := D) (ci := 11) (v := .ref (q 22)) (C := RX11) (T := TX11) (N := 40) hx hb hts (fun _ h => List.mem_cons_of_mem _ (List.mem_append_right _ h)) hown hK hw.1 0 rfl rfl 36 (by decide) (hts (.fieldLink RX11 77 "EggThronesModel" "bookOf" "[I") (List.mem_of_getElem? (i := 6) rfl)) (fun _ h9 => h9) rfl dX11_write_39 ?_
        refine lv_aload_n hx hb dX11_write_42 rfl (lv_at hl 0 rfl) ?_
        refine va_get (D := D) (ci := 11) (v := .int (zI (σ.1 14))) (C := RX11) (T := TX11) (N := 40) hx hb hts (fun _ h => List.mem_cons_of_mem _ (List.mem_append_right _ h)) hown hK hw.1 0 rfl rfl 35 (by decide) (hts (.fieldLink RX11 165 "EggThronesModel" "booked" "I") (List.mem_of_getElem? (i := 4) rfl)) (fun _ h9 => h9) rfl dX11_write_43 ?_
        refine lv_iload_n hx hb dX11_write_46 rfl (lv_at hl 1 rfl) ?_
        obtain ⟨hi47, hf⟩ := gd_s hf
        refine zv_iast (D := D) hx hb hK hw.1 hw.2.1 hw.2.2 22 0 rfl rfl hi47 (by decide) dX11_write_47 (fun H locs hP hD hS => ?_)
        have hw : Wd D A s (wM q cI cZ (sA σ 21 (va_up (σ.2 21) (Int.toNat (σ.1 14)) x1))) H locs := wdaM_21 hP hD hS
        obtain ⟨σ47, e47, hf⟩ := nm_s hf
        replace hf := bt_s hf
        rw [← e47] at hw
        refine lv_aload_n hx hb dX11_write_48 rfl (lv_at hl 0 rfl) ?_
        refine va_get (D := D) (ci := 11) (v := .ref (q 23)) (C := RX11) (T := TX11) (N := 40) hx hb hts (fun _ h => List.mem_cons_of_mem _ (List.mem_append_right _ h)) hown hK hw.1 0 rfl rfl 37 (by decide) (hts (.fieldLink RX11 80 "EggThronesModel" "bookIs" "[I") (List.mem_of_getElem? (i := 7) rfl)) (fun _ h9 => h9) rfl dX11_write_49 ?_
        refine lv_aload_n hx hb dX11_write_52 rfl (lv_at hl 0 rfl) ?_
        refine va_get (D := D) (ci := 11) (v := .int (zI (σ47.1 14))) (C := RX11) (T := TX11) (N := 40) hx hb hts (fun _ h => List.mem_cons_of_mem _ (List.mem_append_right _ h)) hown hK hw.1 0 rfl rfl 35 (by decide) (hts (.fieldLink RX11 165 "EggThronesModel" "booked" "I") (List.mem_of_getElem? (i := 4) rfl)) (fun _ h9 => h9) rfl dX11_write_53 ?_
        refine lv_iload_n hx hb dX11_write_56 rfl (lv_at hl 2 rfl) ?_
        obtain ⟨hi57, hf⟩ := gd_s hf
        refine zv_iast (D := D) hx hb hK hw.1 hw.2.1 hw.2.2 23 0 rfl rfl hi57 (by decide) dX11_write_57 (fun H locs hP hD hS => ?_)
        have hw : Wd D A s (wM q cI cZ (sA σ47 22 (va_up (σ47.2 22) (Int.toNat (σ47.1 14)) x2))) H locs := wdaM_22 hP hD hS
        obtain ⟨σ57, e57, hf⟩ := nm_s hf
        replace hf := bt_s hf
        rw [← e57] at hw
        refine lv_aload_n hx hb dX11_write_58 rfl (lv_at hl 0 rfl) ?_
        refine lv_dup hx hb dX11_write_59 rfl ?_
        refine va_get (D := D) (ci := 11) (v := .int (zI (σ57.1 14))) (C := RX11) (T := TX11) (N := 40) hx hb hts (fun _ h => List.mem_cons_of_mem _ (List.mem_append_right _ h)) hown hK hw.1 0 rfl rfl 35 (by decide) (hts (.fieldLink RX11 165 "EggThronesModel" "booked" "I") (List.mem_of_getElem? (i := 4) rfl)) (fun _ h9 => h9) rfl dX11_write_60 ?_
        refine lv_iconst (v := zI 1) hx hb dX11_write_63 rfl ?_
        refine zv_iadd hx hb dX11_write_64 ?_
        refine va_put (D := D) (ci := 11) (v := .int (zI ((σ57.1 14) + 1))) (ty := .int) (C := RX11) (T := TX11) (N := 40) hx hb hts (fun _ h => List.mem_cons_of_mem _ (List.mem_append_right _ h)) tyX11 tyX11_ok nmX11 hown hK hw.1 hw.2.1 hw.2.2 0 rfl rfl 35 (by decide) (hts (.fieldLink RX11 165 "EggThronesModel" "booked" "I") (List.mem_of_getElem? (i := 4) rfl)) (fun _ h9 => h9) rfl (by decide +kernel) rfl rfl (Nat.le_of_ble_eq_true rfl) dX11_write_65 (fun H locs hP hD hS => ?_)
        have hw : Wd D A s (wM q cI cZ (sI σ57 14 ((σ57.1 14) + 1))) H locs := wdiM_14 hP hD hS
        obtain ⟨σ65, e65, hf⟩ := nm_s hf
        replace hf := bt_s hf
        rw [← e65] at hw
        refine lv_aload_n hx hb dX11_write_68 rfl (lv_at hl 0 rfl) ?_
        refine va_get (D := D) (ci := 11) (v := .int (zI (σ65.1 14))) (C := RX11) (T := TX11) (N := 40) hx hb hts (fun _ h => List.mem_cons_of_mem _ (List.mem_append_right _ h)) hown hK hw.1 0 rfl rfl 35 (by decide) (hts (.fieldLink RX11 165 "EggThronesModel" "booked" "I") (List.mem_of_getElem? (i := 4) rfl)) (fun _ h9 => h9) rfl dX11_write_69 ?_
        cases hf
        exact hret H locs ls 72 dX11_write_72 hw
      · rw [if_pos c32] at hf
        refine zv_ldc hx hb (-1000000004) (by decide +kernel) hown (hts (.constant RX11 109 (-1000000004)) (List.mem_of_getElem? (i := 5) rfl)) dX11_write_35 ?_
        cases hf
        exact hret H locs ls 37 dX11_write_37 hw
    · rw [if_pos c20] at hf
      refine zv_ldc hx hb (-1000000002) (by decide +kernel) hown (hts (.constant RX11 105 (-1000000002)) (List.mem_of_getElem? (i := 3) rfl)) dX11_write_23 ?_
      cases hf
      exact hret H locs ls 25 dX11_write_25 hw
  · rw [if_pos c5] at hf
    refine zv_ldc hx hb (-1000000001) (by decide +kernel) hown (hts (.constant RX11 200 (-1000000001)) (List.mem_of_getElem? (i := 1) rfl)) dX11_write_8 ?_
    cases hf
    exact hret H locs ls 10 dX11_write_10 hw
set_option maxHeartbeats 4000000 in
set_option maxRecDepth 100000 in
theorem tX11_write {l : Launch} {D : va_G} {A : Nat → Prop} {cI cZ : ClassId} {q : Nat → Nat} {σ : St} {x1 : Int} {x2 : Int} {r : Int} {τ : St} (hf : pX11_write σ x1 x2 = some (r, τ)) : Met l yX11_write wsX11_write rmX11_write (va_Pc [.ref (q 0), .int (zI x1), .int (zI x2)] (CX D (TY cI cZ) A (wM q cI cZ σ))) (QI D (TY cI cZ) A (wM q cI cZ τ) (zI r)) 0 0 A := by
  refine opn (cc := cX11_write) (maxL := 3) (ret := (some .int)) (by decide) rfl (Nat.le_of_ble_eq_true rfl) (fun p e s m below meth c C ls hw hl => ?_)
  have hl : lv_has ls 3 [(0, .ref (q 0)), (1, .int (zI x1)), (2, .int (zI x2))] := hl
  rw [pX11_write] at hf
  exact wX11_write_0 C (rtI C) σ x1 x2 _ _ ls hw (lv_sub hl [0, 1, 2] rfl) hf
abbrev rmX10_tear : Room := { frames := 1, cells := 0, slots := 0, locals := 20 }
set_option maxHeartbeats 4000000 in
set_option maxRecDepth 100000 in
theorem wX10_tear_0 {p : Program} {l : Launch} {e : Env} {s : State} {m : MethodId} {args : Array Value} {below : List Frame} {meth : Method} {c : Code} {D : va_G} {A : Nat → Prop} {q : Nat → Nat} {cI cZ : ClassId} {Q : State → Prop} {r : Int} {τ : St} (C : Cx p s m args meth c D (TY cI cZ) cX10_tear (some .int) 2 wsX10_tear RX10) (hret : RtI p l e rmX10_tear s m args below meth c D A cX10_tear Q (wE q cI cZ τ) (zI r)) :
    ∀ (σ : St) (H : Heap) (locs : List Loc) (ls : Array Slot), Wd D A s (wE q cI cZ σ) H locs → lv_has ls 2 [(0, .ref (q 0))] → pX10_tear_0 σ = some (r, τ) → W p l e rmX10_tear s m args below meth c H locs 0 0 Q (F0 m 0 ls []) := by
  obtain ⟨hx, hb, hr, hml, hown, hts, hlk, hK, hN⟩ := id C
  intro σ H locs ls hw hl hf
  rw [pX10_tear_0] at hf
  refine lv_aload_n hx hb dX10_tear_0 rfl (lv_at hl 0 rfl) ?_
  refine va_get (D := D) (ci := 10) (v := .ref (q 24)) (C := RX10) (T := TX10) (N := 13) hx hb hts (fun _ h => List.mem_cons_of_mem _ (List.mem_append_left _ (List.mem_append_left _ (List.mem_append_right _ h)))) hown hK hw.1 0 rfl rfl 6 (by decide) (hts (.fieldLink RX10 52 "EggThrones" "clues" "LEggThrones$Clues;") (List.mem_of_getElem? (i := 1) rfl)) (fun _ h9 => h9) rfl dX10_tear_1 ?_
  refine va_getN (D := D) (ci := 2) (v := .int (zI (σ.1 24))) (C := RX2) (T := TX2) (N := 3) hx hb hts (fun _ h => List.mem_cons_of_mem _ (List.mem_append_left _ (List.mem_append_right _ h))) hown hK hw.1 24 rfl rfl 2 (by decide) (va_Nw.use rfl (hN (.fieldLinkNest "EggThrones" 167 "EggThrones$Clues" "count" "I" "EggThrones") (by decide +kernel))) (fun _ h9 => h9) rfl dX10_tear_4 ?_
  refine lv_aload_n hx hb dX10_tear_7 rfl (lv_at hl 0 rfl) ?_
  refine va_get (D := D) (ci := 10) (v := .ref (q 27)) (C := RX10) (T := TX10) (N := 13) hx hb hts (fun _ h => List.mem_cons_of_mem _ (List.mem_append_left _ (List.mem_append_left _ (List.mem_append_right _ h)))) hown hK hw.1 0 rfl rfl 7 (by decide) (hts (.fieldLink RX10 59 "EggThrones" "book" "LEggThrones$Book;") (List.mem_of_getElem? (i := 2) rfl)) (fun _ h9 => h9) rfl dX10_tear_8 ?_
  refine va_getN (D := D) (ci := 1) (v := .int (zI (σ.1 25))) (C := RX1) (T := TX1) (N := 3) hx hb hts (fun _ h => List.mem_cons_of_mem _ (List.mem_append_right _ h)) hown hK hw.1 27 rfl rfl 2 (by decide) (va_Nw.use rfl (hN (.fieldLinkNest "EggThrones" 170 "EggThrones$Book" "count" "I" "EggThrones") (by decide +kernel))) (fun _ h9 => h9) rfl dX10_tear_11 ?_
  refine zv_iadd hx hb dX10_tear_14 ?_
  refine lv_istore_n (lv' := [(1, .int (zI ((σ.1 24) + (σ.1 25)))), (0, .ref (q 0))]) hx hb dX10_tear_15 rfl hl (by decide) rfl (fun ls hl => ?_)
  refine lv_aload_n hx hb dX10_tear_16 rfl (lv_at hl 1 rfl) ?_
  refine va_get (D := D) (ci := 10) (v := .ref (q 24)) (C := RX10) (T := TX10) (N := 13) hx hb hts (fun _ h => List.mem_cons_of_mem _ (List.mem_append_left _ (List.mem_append_left _ (List.mem_append_right _ h)))) hown hK hw.1 0 rfl rfl 6 (by decide) (hts (.fieldLink RX10 52 "EggThrones" "clues" "LEggThrones$Clues;") (List.mem_of_getElem? (i := 1) rfl)) (fun _ h9 => h9) rfl dX10_tear_17 ?_
  obtain ⟨σ20, h20, hf⟩ := bd_s hf
  replace hf := bt_s hf
  refine gVv (As := []) (rest := []) C hw (tX2_forget h20) (cwV 0 hts gX10_tear_X2_forget rfl rfl rfl (by decide +kernel) ⟨Nat.le_of_ble_eq_true rfl, Nat.le_of_ble_eq_true rfl⟩) 2 24 rfl rfl rfl hl.1 rfl (Nat.le_of_ble_eq_true rfl) dX10_tear_20 (fun H locs hw => ?_)
  refine lv_aload_n hx hb dX10_tear_23 rfl (lv_at hl 1 rfl) ?_
  refine va_get (D := D) (ci := 10) (v := .ref (q 27)) (C := RX10) (T := TX10) (N := 13) hx hb hts (fun _ h => List.mem_cons_of_mem _ (List.mem_append_left _ (List.mem_append_left _ (List.mem_append_right _ h)))) hown hK hw.1 0 rfl rfl 7 (by decide) (hts (.fieldLink RX10 59 "EggThrones" "book" "LEggThrones$Book;") (List.mem_of_getElem? (i := 2) rfl)) (fun _ h9 => h9) rfl dX10_tear_24 ?_
  obtain ⟨σ27, h27, hf⟩ := bd_s hf
  replace hf := bt_s hf
  refine gVv (As := []) (rest := []) C hw (tX1_forget h27) (cwV 0 hts gX10_tear_X1_forget rfl rfl rfl (by decide +kernel) ⟨Nat.le_of_ble_eq_true rfl, Nat.le_of_ble_eq_true rfl⟩) 1 27 rfl rfl rfl hl.1 rfl (Nat.le_of_ble_eq_true rfl) dX10_tear_27 (fun H locs hw => ?_)
  refine lv_iload_n hx hb dX10_tear_30 rfl (lv_at hl 0 rfl) ?_
  cases hf
  exact hret H locs ls 31 dX10_tear_31 hw
set_option maxHeartbeats 4000000 in
set_option maxRecDepth 100000 in
theorem tX10_tear {l : Launch} {D : va_G} {A : Nat → Prop} {cI cZ : ClassId} {q : Nat → Nat} {σ : St} {r : Int} {τ : St} (hf : pX10_tear σ = some (r, τ)) : Met l yX10_tear wsX10_tear rmX10_tear (va_Pc [.ref (q 0)] (CX D (TY cI cZ) A (wE q cI cZ σ))) (QI D (TY cI cZ) A (wE q cI cZ τ) (zI r)) 0 0 A := by
  refine opn (cc := cX10_tear) (maxL := 2) (ret := (some .int)) (by decide) rfl (Nat.le_of_ble_eq_true rfl) (fun p e s m below meth c C ls hw hl => ?_)
  have hl : lv_has ls 2 [(0, .ref (q 0))] := hl
  rw [pX10_tear] at hf
  exact wX10_tear_0 C (rtI C) σ _ _ ls hw (lv_sub hl [0] rfl) hf
abbrev rmX11_tear : Room := { frames := 0, cells := 0, slots := 0, locals := 0 }
set_option maxHeartbeats 4000000 in
set_option maxRecDepth 100000 in
theorem wX11_tear_0 {p : Program} {l : Launch} {e : Env} {s : State} {m : MethodId} {args : Array Value} {below : List Frame} {meth : Method} {c : Code} {D : va_G} {A : Nat → Prop} {q : Nat → Nat} {cI cZ : ClassId} {Q : State → Prop} {r : Int} {τ : St} (C : Cx p s m args meth c D (TY cI cZ) cX11_tear (some .int) 2 wsX11_tear RX11) (hret : RtI p l e rmX11_tear s m args below meth c D A cX11_tear Q (wM q cI cZ τ) (zI r)) :
    ∀ (σ : St) (H : Heap) (locs : List Loc) (ls : Array Slot), Wd D A s (wM q cI cZ σ) H locs → lv_has ls 2 [(0, .ref (q 0))] → pX11_tear_0 σ = some (r, τ) → W p l e rmX11_tear s m args below meth c H locs 0 0 Q (F0 m 0 ls []) := by
  obtain ⟨hx, hb, hr, hml, hown, hts, hlk, hK, hN⟩ := id C
  intro σ H locs ls hw hl hf
  rw [pX11_tear_0] at hf
  refine lv_aload_n hx hb dX11_tear_0 rfl (lv_at hl 0 rfl) ?_
  refine va_get (D := D) (ci := 11) (v := .int (zI (σ.1 13))) (C := RX11) (T := TX11) (N := 40) hx hb hts (fun _ h => List.mem_cons_of_mem _ (List.mem_append_right _ h)) hown hK hw.1 0 rfl rfl 31 (by decide) (hts (.fieldLink RX11 162 "EggThronesModel" "seen" "I") (List.mem_of_getElem? (i := 1) rfl)) (fun _ h9 => h9) rfl dX11_tear_1 ?_
  refine lv_aload_n hx hb dX11_tear_4 rfl (lv_at hl 0 rfl) ?_
  refine va_get (D := D) (ci := 11) (v := .int (zI (σ.1 14))) (C := RX11) (T := TX11) (N := 40) hx hb hts (fun _ h => List.mem_cons_of_mem _ (List.mem_append_right _ h)) hown hK hw.1 0 rfl rfl 35 (by decide) (hts (.fieldLink RX11 165 "EggThronesModel" "booked" "I") (List.mem_of_getElem? (i := 2) rfl)) (fun _ h9 => h9) rfl dX11_tear_5 ?_
  refine zv_iadd hx hb dX11_tear_8 ?_
  refine lv_istore_n (lv' := [(1, .int (zI ((σ.1 13) + (σ.1 14)))), (0, .ref (q 0))]) hx hb dX11_tear_9 rfl hl (by decide) rfl (fun ls hl => ?_)
  refine lv_aload_n hx hb dX11_tear_10 rfl (lv_at hl 1 rfl) ?_
  refine lv_iconst (v := zI 0) hx hb dX11_tear_11 rfl ?_
  refine va_put (D := D) (ci := 11) (v := .int (zI 0)) (ty := .int) (C := RX11) (T := TX11) (N := 40) hx hb hts (fun _ h => List.mem_cons_of_mem _ (List.mem_append_right _ h)) tyX11 tyX11_ok nmX11 hown hK hw.1 hw.2.1 hw.2.2 0 rfl rfl 31 (by decide) (hts (.fieldLink RX11 162 "EggThronesModel" "seen" "I") (List.mem_of_getElem? (i := 1) rfl)) (fun _ h9 => h9) rfl (by decide +kernel) rfl rfl (Nat.le_of_ble_eq_true rfl) dX11_tear_12 (fun H locs hP hD hS => ?_)
  have hw : Wd D A s (wM q cI cZ (sI σ 13 0)) H locs := wdiM_13 hP hD hS
  obtain ⟨σ12, e12, hf⟩ := nm_s hf
  replace hf := bt_s hf
  rw [← e12] at hw
  refine lv_aload_n hx hb dX11_tear_15 rfl (lv_at hl 1 rfl) ?_
  refine lv_iconst (v := zI 0) hx hb dX11_tear_16 rfl ?_
  refine va_put (D := D) (ci := 11) (v := .int (zI 0)) (ty := .int) (C := RX11) (T := TX11) (N := 40) hx hb hts (fun _ h => List.mem_cons_of_mem _ (List.mem_append_right _ h)) tyX11 tyX11_ok nmX11 hown hK hw.1 hw.2.1 hw.2.2 0 rfl rfl 35 (by decide) (hts (.fieldLink RX11 165 "EggThronesModel" "booked" "I") (List.mem_of_getElem? (i := 2) rfl)) (fun _ h9 => h9) rfl (by decide +kernel) rfl rfl (Nat.le_of_ble_eq_true rfl) dX11_tear_17 (fun H locs hP hD hS => ?_)
  have hw : Wd D A s (wM q cI cZ (sI σ12 14 0)) H locs := wdiM_14 hP hD hS
  obtain ⟨σ17, e17, hf⟩ := nm_s hf
  replace hf := bt_s hf
  rw [← e17] at hw
  refine lv_iload_n hx hb dX11_tear_20 rfl (lv_at hl 0 rfl) ?_
  cases hf
  exact hret H locs ls 21 dX11_tear_21 hw
set_option maxHeartbeats 4000000 in
set_option maxRecDepth 100000 in
theorem tX11_tear {l : Launch} {D : va_G} {A : Nat → Prop} {cI cZ : ClassId} {q : Nat → Nat} {σ : St} {r : Int} {τ : St} (hf : pX11_tear σ = some (r, τ)) : Met l yX11_tear wsX11_tear rmX11_tear (va_Pc [.ref (q 0)] (CX D (TY cI cZ) A (wM q cI cZ σ))) (QI D (TY cI cZ) A (wM q cI cZ τ) (zI r)) 0 0 A := by
  refine opn (cc := cX11_tear) (maxL := 2) (ret := (some .int)) (by decide) rfl (Nat.le_of_ble_eq_true rfl) (fun p e s m below meth c C ls hw hl => ?_)
  have hl : lv_has ls 2 [(0, .ref (q 0))] := hl
  rw [pX11_tear] at hf
  exact wX11_tear_0 C (rtI C) σ _ _ ls hw (lv_sub hl [0] rfl) hf
abbrev rmX1_firstWrong : Room := { frames := 2, cells := 0, slots := 0, locals := 42 }
set_option maxHeartbeats 4000000 in
set_option maxRecDepth 100000 in
theorem wX1_firstWrong_2 {p : Program} {l : Launch} {e : Env} {s : State} {m : MethodId} {args : Array Value} {below : List Frame} {meth : Method} {c : Code} {D : va_G} {A : Nat → Prop} {q : Nat → Nat} {cI cZ : ClassId} {Q : State → Prop} {σ : St} {r : Int} (C : Cx p s m args meth c D (TY cI cZ) cX1_firstWrong (some .int) 3 wsX1_firstWrong RX1) (hret : RtI p l e rmX1_firstWrong s m args below meth c D A cX1_firstWrong Q (wE q cI cZ σ) (zI r)) :
    ∀ (n : Nat) (x2 : Int) (H : Heap) (locs : List Loc) (ls : Array Slot), Wd D A s (wE q cI cZ σ) H locs → lv_has ls 3 [(0, .ref (q 27)), (1, .ref (q 15)), (2, .int (zI x2))] → pX1_firstWrong_2 σ n x2 = some r → W p l e rmX1_firstWrong s m args below meth c H locs 0 0 Q (F0 m 2 ls []) := by
  obtain ⟨hx, hb, hr, hml, hown, hts, hlk, hK, hN⟩ := id C
  intro n
  induction n with
  | zero =>
    intro x2 H locs ls hw hl hf
    exact absurd (show (none : Option (Int)) = some r from hf) (by simp)
  | succ n ih =>
    intro x2 H locs ls hw hl hf
    rw [pX1_firstWrong_2] at hf
    refine lv_iload_n hx hb dX1_firstWrong_2 rfl (lv_at hl 2 rfl) ?_
    refine lv_aload_n hx hb dX1_firstWrong_3 rfl (lv_at hl 0 rfl) ?_
    refine va_get (D := D) (ci := 1) (v := .int (zI (σ.1 25))) (C := RX1) (T := TX1) (N := 3) hx hb hts (fun _ h => List.mem_cons_of_mem _ (List.mem_append_left _ (List.mem_append_left _ (List.mem_append_right _ h)))) hown hK hw.1 27 rfl rfl 2 (by decide) (hts (.fieldLink RX1 18 "EggThrones$Book" "count" "I") (List.mem_of_getElem? (i := 1) rfl)) (fun _ h9 => h9) rfl dX1_firstWrong_4 ?_
    obtain ⟨hg7, hf⟩ := gd_s hf
    refine zv_icmp_ge (tgt := 43) hx hb hg7 dX1_firstWrong_7 (by decide) (fun (c7 : (σ.1 25) ≤ x2) => ?_) (fun (c7 : ¬ ((σ.1 25) ≤ x2)) => ?_)
    · rw [if_pos c7] at hf
      refine lv_iconst (v := zI (-1)) hx hb dX1_firstWrong_43 rfl ?_
      cases hf
      exact hret H locs ls 44 dX1_firstWrong_44 hw
    · rw [if_neg c7] at hf
      refine lv_iload_n hx hb dX1_firstWrong_10 rfl (lv_at hl 2 rfl) ?_
      refine lv_bipush (v := zI 15) hx hb dX1_firstWrong_11 (by decide +kernel) ?_
      obtain ⟨hg13, hf⟩ := gd_s hf
      refine zv_icmp_ge (tgt := 43) hx hb ⟨hg13, by decide⟩ dX1_firstWrong_13 (by decide) (fun (c13 : 15 ≤ x2) => ?_) (fun (c13 : ¬ (15 ≤ x2)) => ?_)
      · rw [if_pos c13] at hf
        refine lv_iconst (v := zI (-1)) hx hb dX1_firstWrong_43 rfl ?_
        cases hf
        exact hret H locs ls 44 dX1_firstWrong_44 hw
      · rw [if_neg c13] at hf
        refine lv_aload_n hx hb dX1_firstWrong_16 rfl (lv_at hl 1 rfl) ?_
        refine lv_aload_n hx hb dX1_firstWrong_17 rfl (lv_at hl 0 rfl) ?_
        refine va_get (D := D) (ci := 1) (v := .ref (q 28)) (C := RX1) (T := TX1) (N := 3) hx hb hts (fun _ h => List.mem_cons_of_mem _ (List.mem_append_left _ (List.mem_append_left _ (List.mem_append_right _ h)))) hown hK hw.1 27 rfl rfl 0 (by decide) (hts (.fieldLink RX1 9 "EggThrones$Book" "eggs" "[I") (List.mem_of_getElem? (i := 2) rfl)) (fun _ h9 => h9) rfl dX1_firstWrong_18 ?_
        refine lv_iload_n hx hb dX1_firstWrong_21 rfl (lv_at hl 2 rfl) ?_
        obtain ⟨hi22, hf⟩ := gd_s hf
        refine zv_iald (D := D) hx hb hK hw.1 28 0 rfl rfl hi22 (by decide) dX1_firstWrong_22 ?_
        obtain ⟨r23, h23, hf⟩ := bd_s hf
        replace hf := bt_s hf
        refine gVi (As := [.int (zI (σ.2 19 (Int.toNat x2)))]) (rest := []) C hw (tX4_stateOf h23) (cwV 1 hts gX1_firstWrong_X4_stateOf rfl rfl rfl (by decide +kernel) ⟨Nat.le_of_ble_eq_true rfl, Nat.le_of_ble_eq_true rfl⟩) 4 15 rfl rfl rfl hl.1 rfl (Nat.le_of_ble_eq_true rfl) dX1_firstWrong_23 (fun H locs hw => ?_)
        refine lv_aload_n hx hb dX1_firstWrong_26 rfl (lv_at hl 0 rfl) ?_
        refine va_get (D := D) (ci := 1) (v := .ref (q 29)) (C := RX1) (T := TX1) (N := 3) hx hb hts (fun _ h => List.mem_cons_of_mem _ (List.mem_append_left _ (List.mem_append_left _ (List.mem_append_right _ h)))) hown hK hw.1 27 rfl rfl 1 (by decide) (hts (.fieldLink RX1 15 "EggThrones$Book" "states" "[I") (List.mem_of_getElem? (i := 3) rfl)) (fun _ h9 => h9) rfl dX1_firstWrong_27 ?_
        refine lv_iload_n hx hb dX1_firstWrong_30 rfl (lv_at hl 2 rfl) ?_
        obtain ⟨hi31, hf⟩ := gd_s hf
        refine zv_iald (D := D) hx hb hK hw.1 29 0 rfl rfl hi31 (by decide) dX1_firstWrong_31 ?_
        obtain ⟨hg32, hf⟩ := gd_s hf
        refine zv_icmp_eq (tgt := 37) hx hb hg32 dX1_firstWrong_32 (by decide) (fun (c32 : r23 = (σ.2 20 (Int.toNat x2))) => ?_) (fun (c32 : ¬ (r23 = (σ.2 20 (Int.toNat x2)))) => ?_)
        · rw [if_pos c32] at hf
          refine lv_iinc (v := zI (x2 + 1)) (lv' := [(2, .int (zI (x2 + 1))), (0, .ref (q 27)), (1, .ref (q 15))]) hx hb dX1_firstWrong_37 hl (k := 2) rfl (zI_add _ _) (by decide) rfl (fun ls hl => ?_)
          refine lv_goto (tgt := 2) hx hb dX1_firstWrong_40 (by decide) ?_
          exact ih (x2 + 1) H locs ls hw (lv_sub hl [1, 2, 0] rfl) hf
        · rw [if_neg c32] at hf
          refine lv_iload_n hx hb dX1_firstWrong_35 rfl (lv_at hl 2 rfl) ?_
          cases hf
          exact hret H locs ls 36 dX1_firstWrong_36 hw
set_option maxHeartbeats 4000000 in
set_option maxRecDepth 100000 in
theorem wX1_firstWrong_0 {p : Program} {l : Launch} {e : Env} {s : State} {m : MethodId} {args : Array Value} {below : List Frame} {meth : Method} {c : Code} {D : va_G} {A : Nat → Prop} {q : Nat → Nat} {cI cZ : ClassId} {Q : State → Prop} {σ : St} {r : Int} (C : Cx p s m args meth c D (TY cI cZ) cX1_firstWrong (some .int) 3 wsX1_firstWrong RX1) (hret : RtI p l e rmX1_firstWrong s m args below meth c D A cX1_firstWrong Q (wE q cI cZ σ) (zI r)) :
    ∀ (H : Heap) (locs : List Loc) (ls : Array Slot), Wd D A s (wE q cI cZ σ) H locs → lv_has ls 3 [(0, .ref (q 27)), (1, .ref (q 15))] → pX1_firstWrong_0 σ = some r → W p l e rmX1_firstWrong s m args below meth c H locs 0 0 Q (F0 m 0 ls []) := by
  obtain ⟨hx, hb, hr, hml, hown, hts, hlk, hK, hN⟩ := id C
  intro H locs ls hw hl hf
  rw [pX1_firstWrong_0] at hf
  refine lv_iconst (v := zI 0) hx hb dX1_firstWrong_0 rfl ?_
  refine lv_istore_n (lv' := [(2, .int (zI 0)), (0, .ref (q 27)), (1, .ref (q 15))]) hx hb dX1_firstWrong_1 rfl hl (by decide) rfl (fun ls hl => ?_)
  exact wX1_firstWrong_2 C hret FU 0 H locs ls hw (lv_sub hl [1, 2, 0] rfl) hf
set_option maxHeartbeats 4000000 in
set_option maxRecDepth 100000 in
theorem tX1_firstWrong {l : Launch} {D : va_G} {A : Nat → Prop} {cI cZ : ClassId} {q : Nat → Nat} {σ : St} {r : Int} (hf : pX1_firstWrong σ = some r) : Met l yX1_firstWrong wsX1_firstWrong rmX1_firstWrong (va_Pc [.ref (q 27), .ref (q 15)] (CX D (TY cI cZ) A (wE q cI cZ σ))) (QI D (TY cI cZ) A (wE q cI cZ σ) (zI r)) 0 0 A := by
  refine opn (cc := cX1_firstWrong) (maxL := 3) (ret := (some .int)) (by decide) rfl (Nat.le_of_ble_eq_true rfl) (fun p e s m below meth c C ls hw hl => ?_)
  have hl : lv_has ls 3 [(0, .ref (q 27)), (1, .ref (q 15))] := hl
  rw [pX1_firstWrong] at hf
  exact wX1_firstWrong_0 C (rtI C) _ _ ls hw (lv_sub hl [0, 1] rfl) hf
abbrev rmX10_judge : Room := { frames := 3, cells := 0, slots := 0, locals := 64 }
set_option maxHeartbeats 4000000 in
set_option maxRecDepth 100000 in
theorem wX10_judge_0 {p : Program} {l : Launch} {e : Env} {s : State} {m : MethodId} {args : Array Value} {below : List Frame} {meth : Method} {c : Code} {D : va_G} {A : Nat → Prop} {q : Nat → Nat} {cI cZ : ClassId} {Q : State → Prop} {σ : St} {r : Int} (C : Cx p s m args meth c D (TY cI cZ) cX10_judge (some .int) 1 wsX10_judge RX10) (hret : RtI p l e rmX10_judge s m args below meth c D A cX10_judge Q (wE q cI cZ σ) (zI r)) :
    ∀ (H : Heap) (locs : List Loc) (ls : Array Slot), Wd D A s (wE q cI cZ σ) H locs → lv_has ls 1 [(0, .ref (q 0))] → pX10_judge_0 σ = some r → W p l e rmX10_judge s m args below meth c H locs 0 0 Q (F0 m 0 ls []) := by
  obtain ⟨hx, hb, hr, hml, hown, hts, hlk, hK, hN⟩ := id C
  intro H locs ls hw hl hf
  rw [pX10_judge_0] at hf
  refine lv_aload_n hx hb dX10_judge_0 rfl (lv_at hl 0 rfl) ?_
  refine va_get (D := D) (ci := 10) (v := .ref (q 27)) (C := RX10) (T := TX10) (N := 13) hx hb hts (fun _ h => List.mem_cons_of_mem _ (List.mem_append_left _ (List.mem_append_left _ (List.mem_append_left _ (List.mem_append_right _ h))))) hown hK hw.1 0 rfl rfl 7 (by decide) (hts (.fieldLink RX10 59 "EggThrones" "book" "LEggThrones$Book;") (List.mem_of_getElem? (i := 1) rfl)) (fun _ h9 => h9) rfl dX10_judge_1 ?_
  refine lv_aload_n hx hb dX10_judge_4 rfl (lv_at hl 0 rfl) ?_
  refine va_get (D := D) (ci := 10) (v := .ref (q 15)) (C := RX10) (T := TX10) (N := 13) hx hb hts (fun _ h => List.mem_cons_of_mem _ (List.mem_append_left _ (List.mem_append_left _ (List.mem_append_left _ (List.mem_append_right _ h))))) hown hK hw.1 0 rfl rfl 3 (by decide) (hts (.fieldLink RX10 31 "EggThrones" "now" "LEggThrones$Morning;") (List.mem_of_getElem? (i := 2) rfl)) (fun _ h9 => h9) rfl dX10_judge_5 ?_
  obtain ⟨r8, h8, hf⟩ := bd_s hf
  replace hf := bt_s hf
  refine gVi (As := [.ref (q 15)]) (rest := []) C hw (tX1_firstWrong h8) (cwV 1 hts gX10_judge_X1_firstWrong rfl rfl rfl (by decide +kernel) ⟨Nat.le_of_ble_eq_true rfl, Nat.le_of_ble_eq_true rfl⟩) 1 27 rfl rfl rfl hl.1 rfl (Nat.le_of_ble_eq_true rfl) dX10_judge_8 (fun H locs hw => ?_)
  cases hf
  exact hret H locs ls 11 dX10_judge_11 hw
set_option maxHeartbeats 4000000 in
set_option maxRecDepth 100000 in
theorem tX10_judge {l : Launch} {D : va_G} {A : Nat → Prop} {cI cZ : ClassId} {q : Nat → Nat} {σ : St} {r : Int} (hf : pX10_judge σ = some r) : Met l yX10_judge wsX10_judge rmX10_judge (va_Pc [.ref (q 0)] (CX D (TY cI cZ) A (wE q cI cZ σ))) (QI D (TY cI cZ) A (wE q cI cZ σ) (zI r)) 0 0 A := by
  refine opn (cc := cX10_judge) (maxL := 1) (ret := (some .int)) (by decide) rfl (Nat.le_of_ble_eq_true rfl) (fun p e s m below meth c C ls hw hl => ?_)
  have hl : lv_has ls 1 [(0, .ref (q 0))] := hl
  rw [pX10_judge] at hf
  exact wX10_judge_0 C (rtI C) _ _ ls hw (lv_sub hl [0] rfl) hf
abbrev rmX11_judge : Room := { frames := 0, cells := 0, slots := 0, locals := 0 }
set_option maxHeartbeats 4000000 in
set_option maxRecDepth 100000 in
theorem wX11_judge_2 {p : Program} {l : Launch} {e : Env} {s : State} {m : MethodId} {args : Array Value} {below : List Frame} {meth : Method} {c : Code} {D : va_G} {A : Nat → Prop} {q : Nat → Nat} {cI cZ : ClassId} {Q : State → Prop} {σ : St} {r : Int} (C : Cx p s m args meth c D (TY cI cZ) cX11_judge (some .int) 2 wsX11_judge RX11) (hret : RtI p l e rmX11_judge s m args below meth c D A cX11_judge Q (wM q cI cZ σ) (zI r)) :
    ∀ (n : Nat) (x1 : Int) (H : Heap) (locs : List Loc) (ls : Array Slot), Wd D A s (wM q cI cZ σ) H locs → lv_has ls 2 [(0, .ref (q 0)), (1, .int (zI x1))] → pX11_judge_2 σ n x1 = some r → W p l e rmX11_judge s m args below meth c H locs 0 0 Q (F0 m 2 ls []) := by
  obtain ⟨hx, hb, hr, hml, hown, hts, hlk, hK, hN⟩ := id C
  intro n
  induction n with
  | zero =>
    intro x1 H locs ls hw hl hf
    exact absurd (show (none : Option (Int)) = some r from hf) (by simp)
  | succ n ih =>
    intro x1 H locs ls hw hl hf
    rw [pX11_judge_2] at hf
    refine lv_iload_n hx hb dX11_judge_2 rfl (lv_at hl 1 rfl) ?_
    refine lv_aload_n hx hb dX11_judge_3 rfl (lv_at hl 0 rfl) ?_
    refine va_get (D := D) (ci := 11) (v := .int (zI (σ.1 14))) (C := RX11) (T := TX11) (N := 40) hx hb hts (fun _ h => List.mem_cons_of_mem _ (List.mem_append_right _ h)) hown hK hw.1 0 rfl rfl 35 (by decide) (hts (.fieldLink RX11 165 "EggThronesModel" "booked" "I") (List.mem_of_getElem? (i := 1) rfl)) (fun _ h9 => h9) rfl dX11_judge_4 ?_
    obtain ⟨hg7, hf⟩ := gd_s hf
    refine zv_icmp_ge (tgt := 38) hx hb hg7 dX11_judge_7 (by decide) (fun (c7 : (σ.1 14) ≤ x1) => ?_) (fun (c7 : ¬ ((σ.1 14) ≤ x1)) => ?_)
    · rw [if_pos c7] at hf
      refine lv_iconst (v := zI (-1)) hx hb dX11_judge_38 rfl ?_
      cases hf
      exact hret H locs ls 39 dX11_judge_39 hw
    · rw [if_neg c7] at hf
      refine lv_aload_n hx hb dX11_judge_10 rfl (lv_at hl 0 rfl) ?_
      refine va_get (D := D) (ci := 11) (v := .ref (q 6)) (C := RX11) (T := TX11) (N := 40) hx hb hts (fun _ h => List.mem_cons_of_mem _ (List.mem_append_right _ h)) hown hK hw.1 0 rfl rfl 9 (by decide) (hts (.fieldLink RX11 25 "EggThronesModel" "now" "[I") (List.mem_of_getElem? (i := 2) rfl)) (fun _ h9 => h9) rfl dX11_judge_11 ?_
      refine lv_aload_n hx hb dX11_judge_14 rfl (lv_at hl 0 rfl) ?_
      refine va_get (D := D) (ci := 11) (v := .ref (q 22)) (C := RX11) (T := TX11) (N := 40) hx hb hts (fun _ h => List.mem_cons_of_mem _ (List.mem_append_right _ h)) hown hK hw.1 0 rfl rfl 36 (by decide) (hts (.fieldLink RX11 77 "EggThronesModel" "bookOf" "[I") (List.mem_of_getElem? (i := 3) rfl)) (fun _ h9 => h9) rfl dX11_judge_15 ?_
      refine lv_iload_n hx hb dX11_judge_18 rfl (lv_at hl 1 rfl) ?_
      obtain ⟨hi19, hf⟩ := gd_s hf
      refine zv_iald (D := D) hx hb hK hw.1 22 0 rfl rfl hi19 (by decide) dX11_judge_19 ?_
      obtain ⟨hi20, hf⟩ := gd_s hf
      refine zv_iald (D := D) hx hb hK hw.1 6 0 rfl rfl hi20 (by decide) dX11_judge_20 ?_
      refine lv_aload_n hx hb dX11_judge_21 rfl (lv_at hl 0 rfl) ?_
      refine va_get (D := D) (ci := 11) (v := .ref (q 23)) (C := RX11) (T := TX11) (N := 40) hx hb hts (fun _ h => List.mem_cons_of_mem _ (List.mem_append_right _ h)) hown hK hw.1 0 rfl rfl 37 (by decide) (hts (.fieldLink RX11 80 "EggThronesModel" "bookIs" "[I") (List.mem_of_getElem? (i := 4) rfl)) (fun _ h9 => h9) rfl dX11_judge_22 ?_
      refine lv_iload_n hx hb dX11_judge_25 rfl (lv_at hl 1 rfl) ?_
      obtain ⟨hi26, hf⟩ := gd_s hf
      refine zv_iald (D := D) hx hb hK hw.1 23 0 rfl rfl hi26 (by decide) dX11_judge_26 ?_
      obtain ⟨hg27, hf⟩ := gd_s hf
      refine zv_icmp_eq (tgt := 32) hx hb hg27 dX11_judge_27 (by decide) (fun (c27 : (σ.2 5 (Int.toNat (σ.2 21 (Int.toNat x1)))) = (σ.2 22 (Int.toNat x1))) => ?_) (fun (c27 : ¬ ((σ.2 5 (Int.toNat (σ.2 21 (Int.toNat x1)))) = (σ.2 22 (Int.toNat x1)))) => ?_)
      · rw [if_pos c27] at hf
        refine lv_iinc (v := zI (x1 + 1)) (lv' := [(1, .int (zI (x1 + 1))), (0, .ref (q 0))]) hx hb dX11_judge_32 hl (k := 1) rfl (zI_add _ _) (by decide) rfl (fun ls hl => ?_)
        refine lv_goto (tgt := 2) hx hb dX11_judge_35 (by decide) ?_
        exact ih (x1 + 1) H locs ls hw (lv_sub hl [1, 0] rfl) hf
      · rw [if_neg c27] at hf
        refine lv_iload_n hx hb dX11_judge_30 rfl (lv_at hl 1 rfl) ?_
        cases hf
        exact hret H locs ls 31 dX11_judge_31 hw
set_option maxHeartbeats 4000000 in
set_option maxRecDepth 100000 in
theorem wX11_judge_0 {p : Program} {l : Launch} {e : Env} {s : State} {m : MethodId} {args : Array Value} {below : List Frame} {meth : Method} {c : Code} {D : va_G} {A : Nat → Prop} {q : Nat → Nat} {cI cZ : ClassId} {Q : State → Prop} {σ : St} {r : Int} (C : Cx p s m args meth c D (TY cI cZ) cX11_judge (some .int) 2 wsX11_judge RX11) (hret : RtI p l e rmX11_judge s m args below meth c D A cX11_judge Q (wM q cI cZ σ) (zI r)) :
    ∀ (H : Heap) (locs : List Loc) (ls : Array Slot), Wd D A s (wM q cI cZ σ) H locs → lv_has ls 2 [(0, .ref (q 0))] → pX11_judge_0 σ = some r → W p l e rmX11_judge s m args below meth c H locs 0 0 Q (F0 m 0 ls []) := by
  obtain ⟨hx, hb, hr, hml, hown, hts, hlk, hK, hN⟩ := id C
  intro H locs ls hw hl hf
  rw [pX11_judge_0] at hf
  refine lv_iconst (v := zI 0) hx hb dX11_judge_0 rfl ?_
  refine lv_istore_n (lv' := [(1, .int (zI 0)), (0, .ref (q 0))]) hx hb dX11_judge_1 rfl hl (by decide) rfl (fun ls hl => ?_)
  exact wX11_judge_2 C hret FU 0 H locs ls hw (lv_sub hl [1, 0] rfl) hf
set_option maxHeartbeats 4000000 in
set_option maxRecDepth 100000 in
theorem tX11_judge {l : Launch} {D : va_G} {A : Nat → Prop} {cI cZ : ClassId} {q : Nat → Nat} {σ : St} {r : Int} (hf : pX11_judge σ = some r) : Met l yX11_judge wsX11_judge rmX11_judge (va_Pc [.ref (q 0)] (CX D (TY cI cZ) A (wM q cI cZ σ))) (QI D (TY cI cZ) A (wM q cI cZ σ) (zI r)) 0 0 A := by
  refine opn (cc := cX11_judge) (maxL := 2) (ret := (some .int)) (by decide) rfl (Nat.le_of_ble_eq_true rfl) (fun p e s m below meth c C ls hw hl => ?_)
  have hl : lv_has ls 2 [(0, .ref (q 0))] := hl
  rw [pX11_judge] at hf
  exact wX11_judge_0 C (rtI C) _ _ ls hw (lv_sub hl [0] rfl) hf
abbrev rmX10_seed : Room := { frames := 0, cells := 0, slots := 0, locals := 0 }
set_option maxHeartbeats 4000000 in
set_option maxRecDepth 100000 in
theorem wX10_seed_0 {p : Program} {l : Launch} {e : Env} {s : State} {m : MethodId} {args : Array Value} {below : List Frame} {meth : Method} {c : Code} {D : va_G} {A : Nat → Prop} {q : Nat → Nat} {cI cZ : ClassId} {Q : State → Prop} {r : Int} {τ : St} (C : Cx p s m args meth c D (TY cI cZ) cX10_seed (some .int) 3 wsX10_seed RX10) (hret : RtI p l e rmX10_seed s m args below meth c D A cX10_seed Q (wE q cI cZ τ) (zI r)) :
    ∀ (σ : St) (x1 : Int) (H : Heap) (locs : List Loc) (ls : Array Slot), Wd D A s (wE q cI cZ σ) H locs → lv_has ls 3 [(0, .ref (q 0)), (1, .int (zI x1))] → pX10_seed_0 σ x1 = some (r, τ) → W p l e rmX10_seed s m args below meth c H locs 0 0 Q (F0 m 0 ls []) := by
  obtain ⟨hx, hb, hr, hml, hown, hts, hlk, hK, hN⟩ := id C
  intro σ x1 H locs ls hw hl hf
  rw [pX10_seed_0] at hf
  refine lv_iload_n hx hb dX10_seed_0 rfl (lv_at hl 1 rfl) ?_
  obtain ⟨hg1, hf⟩ := gd_s hf
  refine zv_if_ge (tgt := 7) hx hb hg1 dX10_seed_1 (by decide) (fun (c1 : 0 ≤ x1) => ?_) (fun (c1 : ¬ (0 ≤ x1)) => ?_)
  · rw [if_pos c1] at hf
    refine lv_aload_n hx hb dX10_seed_7 rfl (lv_at hl 0 rfl) ?_
    refine va_get (D := D) (ci := 10) (v := .int (zI (σ.1 1))) (C := RX10) (T := TX10) (N := 13) hx hb hts (fun _ h => List.mem_cons_of_mem _ (List.mem_append_right _ h)) hown hK hw.1 0 rfl rfl 12 (by decide) (hts (.fieldLink RX10 88 "EggThrones" "drawSeed" "I") (List.mem_of_getElem? (i := 2) rfl)) (fun _ h9 => h9) rfl dX10_seed_8 ?_
    refine lv_istore_n (lv' := [(2, .int (zI (σ.1 1))), (0, .ref (q 0)), (1, .int (zI x1))]) hx hb dX10_seed_11 rfl hl (by decide) rfl (fun ls hl => ?_)
    refine lv_aload_n hx hb dX10_seed_12 rfl (lv_at hl 1 rfl) ?_
    refine lv_iload_n hx hb dX10_seed_13 rfl (lv_at hl 2 rfl) ?_
    refine va_put (D := D) (ci := 10) (v := .int (zI x1)) (ty := .int) (C := RX10) (T := TX10) (N := 13) hx hb hts (fun _ h => List.mem_cons_of_mem _ (List.mem_append_right _ h)) tyX10 tyX10_ok nmX10 hown hK hw.1 hw.2.1 hw.2.2 0 rfl rfl 12 (by decide) (hts (.fieldLink RX10 88 "EggThrones" "drawSeed" "I") (List.mem_of_getElem? (i := 2) rfl)) (fun _ h9 => h9) rfl (by decide +kernel) rfl rfl (Nat.le_of_ble_eq_true rfl) dX10_seed_14 (fun H locs hP hD hS => ?_)
    have hw : Wd D A s (wE q cI cZ (sI σ 1 x1)) H locs := wdiE_1 hP hD hS
    obtain ⟨σ14, e14, hf⟩ := nm_s hf
    replace hf := bt_s hf
    rw [← e14] at hw
    refine lv_iload_n hx hb dX10_seed_17 rfl (lv_at hl 0 rfl) ?_
    cases hf
    exact hret H locs ls 18 dX10_seed_18 hw
  · rw [if_neg c1] at hf
    refine zv_ldc hx hb (-1000000002) (by decide +kernel) hown (hts (.constant RX10 95 (-1000000002)) (List.mem_of_getElem? (i := 1) rfl)) dX10_seed_4 ?_
    cases hf
    exact hret H locs ls 6 dX10_seed_6 hw
set_option maxHeartbeats 4000000 in
set_option maxRecDepth 100000 in
theorem tX10_seed {l : Launch} {D : va_G} {A : Nat → Prop} {cI cZ : ClassId} {q : Nat → Nat} {σ : St} {x1 : Int} {r : Int} {τ : St} (hf : pX10_seed σ x1 = some (r, τ)) : Met l yX10_seed wsX10_seed rmX10_seed (va_Pc [.ref (q 0), .int (zI x1)] (CX D (TY cI cZ) A (wE q cI cZ σ))) (QI D (TY cI cZ) A (wE q cI cZ τ) (zI r)) 0 0 A := by
  refine opn (cc := cX10_seed) (maxL := 3) (ret := (some .int)) (by decide) rfl (Nat.le_of_ble_eq_true rfl) (fun p e s m below meth c C ls hw hl => ?_)
  have hl : lv_has ls 3 [(0, .ref (q 0)), (1, .int (zI x1))] := hl
  rw [pX10_seed] at hf
  exact wX10_seed_0 C (rtI C) σ x1 _ _ ls hw (lv_sub hl [0, 1] rfl) hf
abbrev rmX11_seed : Room := { frames := 0, cells := 0, slots := 0, locals := 0 }
set_option maxHeartbeats 4000000 in
set_option maxRecDepth 100000 in
theorem wX11_seed_0 {p : Program} {l : Launch} {e : Env} {s : State} {m : MethodId} {args : Array Value} {below : List Frame} {meth : Method} {c : Code} {D : va_G} {A : Nat → Prop} {q : Nat → Nat} {cI cZ : ClassId} {Q : State → Prop} {r : Int} {τ : St} (C : Cx p s m args meth c D (TY cI cZ) cX11_seed (some .int) 3 wsX11_seed RX11) (hret : RtI p l e rmX11_seed s m args below meth c D A cX11_seed Q (wM q cI cZ τ) (zI r)) :
    ∀ (σ : St) (x1 : Int) (H : Heap) (locs : List Loc) (ls : Array Slot), Wd D A s (wM q cI cZ σ) H locs → lv_has ls 3 [(0, .ref (q 0)), (1, .int (zI x1))] → pX11_seed_0 σ x1 = some (r, τ) → W p l e rmX11_seed s m args below meth c H locs 0 0 Q (F0 m 0 ls []) := by
  obtain ⟨hx, hb, hr, hml, hown, hts, hlk, hK, hN⟩ := id C
  intro σ x1 H locs ls hw hl hf
  rw [pX11_seed_0] at hf
  refine lv_iload_n hx hb dX11_seed_0 rfl (lv_at hl 1 rfl) ?_
  obtain ⟨hg1, hf⟩ := gd_s hf
  refine zv_if_ge (tgt := 7) hx hb hg1 dX11_seed_1 (by decide) (fun (c1 : 0 ≤ x1) => ?_) (fun (c1 : ¬ (0 ≤ x1)) => ?_)
  · rw [if_pos c1] at hf
    refine lv_aload_n hx hb dX11_seed_7 rfl (lv_at hl 0 rfl) ?_
    refine va_get (D := D) (ci := 11) (v := .int (zI (σ.1 4))) (C := RX11) (T := TX11) (N := 40) hx hb hts (fun _ h => List.mem_cons_of_mem _ (List.mem_append_right _ h)) hown hK hw.1 0 rfl rfl 10 (by decide) (hts (.fieldLink RX11 231 "EggThronesModel" "seed" "I") (List.mem_of_getElem? (i := 2) rfl)) (fun _ h9 => h9) rfl dX11_seed_8 ?_
    refine lv_istore_n (lv' := [(2, .int (zI (σ.1 4))), (0, .ref (q 0)), (1, .int (zI x1))]) hx hb dX11_seed_11 rfl hl (by decide) rfl (fun ls hl => ?_)
    refine lv_aload_n hx hb dX11_seed_12 rfl (lv_at hl 1 rfl) ?_
    refine lv_iload_n hx hb dX11_seed_13 rfl (lv_at hl 2 rfl) ?_
    refine va_put (D := D) (ci := 11) (v := .int (zI x1)) (ty := .int) (C := RX11) (T := TX11) (N := 40) hx hb hts (fun _ h => List.mem_cons_of_mem _ (List.mem_append_right _ h)) tyX11 tyX11_ok nmX11 hown hK hw.1 hw.2.1 hw.2.2 0 rfl rfl 10 (by decide) (hts (.fieldLink RX11 231 "EggThronesModel" "seed" "I") (List.mem_of_getElem? (i := 2) rfl)) (fun _ h9 => h9) rfl (by decide +kernel) rfl rfl (Nat.le_of_ble_eq_true rfl) dX11_seed_14 (fun H locs hP hD hS => ?_)
    have hw : Wd D A s (wM q cI cZ (sI σ 4 x1)) H locs := wdiM_4 hP hD hS
    obtain ⟨σ14, e14, hf⟩ := nm_s hf
    replace hf := bt_s hf
    rw [← e14] at hw
    refine lv_iload_n hx hb dX11_seed_17 rfl (lv_at hl 0 rfl) ?_
    cases hf
    exact hret H locs ls 18 dX11_seed_18 hw
  · rw [if_neg c1] at hf
    refine zv_ldc hx hb (-1000000002) (by decide +kernel) hown (hts (.constant RX11 105 (-1000000002)) (List.mem_of_getElem? (i := 1) rfl)) dX11_seed_4 ?_
    cases hf
    exact hret H locs ls 6 dX11_seed_6 hw
set_option maxHeartbeats 4000000 in
set_option maxRecDepth 100000 in
theorem tX11_seed {l : Launch} {D : va_G} {A : Nat → Prop} {cI cZ : ClassId} {q : Nat → Nat} {σ : St} {x1 : Int} {r : Int} {τ : St} (hf : pX11_seed σ x1 = some (r, τ)) : Met l yX11_seed wsX11_seed rmX11_seed (va_Pc [.ref (q 0), .int (zI x1)] (CX D (TY cI cZ) A (wM q cI cZ σ))) (QI D (TY cI cZ) A (wM q cI cZ τ) (zI r)) 0 0 A := by
  refine opn (cc := cX11_seed) (maxL := 3) (ret := (some .int)) (by decide) rfl (Nat.le_of_ble_eq_true rfl) (fun p e s m below meth c C ls hw hl => ?_)
  have hl : lv_has ls 3 [(0, .ref (q 0)), (1, .int (zI x1))] := hl
  rw [pX11_seed] at hf
  exact wX11_seed_0 C (rtI C) σ x1 _ _ ls hw (lv_sub hl [0, 1] rfl) hf
abbrev rmX4_isRow_a21 : Room := { frames := 0, cells := 0, slots := 0, locals := 0 }
set_option maxHeartbeats 4000000 in
set_option maxRecDepth 100000 in
theorem wX4_isRow_a21_0 {p : Program} {l : Launch} {e : Env} {s : State} {m : MethodId} {args : Array Value} {below : List Frame} {meth : Method} {c : Code} {D : va_G} {A : Nat → Prop} {q : Nat → Nat} {cI cZ : ClassId} {Q : State → Prop} {σ : St} {r : Int} (C : Cx p s m args meth c D (TY cI cZ) cX4_isRow (some .boolean) 2 wsX4_isRow RX4) (hret : RtZ p l e rmX4_isRow_a21 s m args below meth c D A cX4_isRow Q (wE q cI cZ σ) (zI r)) :
    ∀ (x1 : Int) (H : Heap) (locs : List Loc) (ls : Array Slot), Wd D A s (wE q cI cZ σ) H locs → lv_has ls 2 [(0, .ref (q 21)), (1, .int (zI x1))] → pX4_isRow_a21_0 σ x1 = some r → W p l e rmX4_isRow_a21 s m args below meth c H locs 0 0 Q (F0 m 0 ls []) := by
  obtain ⟨hx, hb, hr, hml, hown, hts, hlk, hK, hN⟩ := id C
  intro x1 H locs ls hw hl hf
  rw [pX4_isRow_a21_0] at hf
  refine lv_aload_n hx hb dX4_isRow_0 rfl (lv_at hl 0 rfl) ?_
  refine lv_ifnull hx hb dX4_isRow_1 ?_
  refine lv_iload_n hx hb dX4_isRow_4 rfl (lv_at hl 1 rfl) ?_
  obtain ⟨hg5, hf⟩ := gd_s hf
  refine zv_if_lt (tgt := 21) hx hb hg5 dX4_isRow_5 (by decide) (fun (c5 : x1 < 0) => ?_) (fun (c5 : ¬ (x1 < 0)) => ?_)
  · rw [if_pos c5] at hf
    refine lv_iconst (v := zI 0) hx hb dX4_isRow_21 rfl ?_
    cases hf
    exact hret H locs ls 22 dX4_isRow_22 (by decide +kernel) hw
  · rw [if_neg c5] at hf
    refine lv_iload_n hx hb dX4_isRow_8 rfl (lv_at hl 1 rfl) ?_
    refine lv_aload_n hx hb dX4_isRow_9 rfl (lv_at hl 0 rfl) ?_
    refine va_alen (v := zI 40) (D := D) hx hb hK hw.1 21 0 rfl rfl (by show Int32.ofNat 40 = zI 40; decide +kernel) dX4_isRow_10 ?_
    refine lv_bipush (v := zI 20) hx hb dX4_isRow_11 (by decide +kernel) ?_
    refine zv_isub hx hb dX4_isRow_13 ?_
    obtain ⟨hg14, hf⟩ := gd_s hf
    refine zv_icmp_gt (tgt := 21) hx hb hg14 dX4_isRow_14 (by decide) (fun (c14 : (40 - 20) < x1) => ?_) (fun (c14 : ¬ ((40 - 20) < x1)) => ?_)
    · rw [if_pos c14] at hf
      refine lv_iconst (v := zI 0) hx hb dX4_isRow_21 rfl ?_
      cases hf
      exact hret H locs ls 22 dX4_isRow_22 (by decide +kernel) hw
    · rw [if_neg c14] at hf
      refine lv_iconst (v := zI 1) hx hb dX4_isRow_17 rfl ?_
      refine lv_goto (tgt := 22) hx hb dX4_isRow_18 (by decide) ?_
      cases hf
      exact hret H locs ls 22 dX4_isRow_22 (by decide +kernel) hw
set_option maxHeartbeats 4000000 in
set_option maxRecDepth 100000 in
theorem tX4_isRow_a21 {l : Launch} {D : va_G} {A : Nat → Prop} {cI cZ : ClassId} {q : Nat → Nat} {σ : St} {x1 : Int} {r : Int} (hf : pX4_isRow_a21 σ x1 = some r) : Met l yX4_isRow wsX4_isRow rmX4_isRow_a21 (va_Pc [.ref (q 21), .int (zI x1)] (CX D (TY cI cZ) A (wE q cI cZ σ))) (QI D (TY cI cZ) A (wE q cI cZ σ) (zI r)) 0 0 A := by
  refine opn (cc := cX4_isRow) (maxL := 2) (ret := (some .boolean)) (by decide) rfl (Nat.le_of_ble_eq_true rfl) (fun p e s m below meth c C ls hw hl => ?_)
  have hl : lv_has ls 2 [(0, .ref (q 21)), (1, .int (zI x1))] := hl
  rw [pX4_isRow_a21] at hf
  exact wX4_isRow_a21_0 C (rtZ C) x1 _ _ ls hw (lv_sub hl [0, 1] rfl) hf
abbrev rmX4_saveTo_a21 : Room := { frames := 1, cells := 0, slots := 0, locals := 60 }
set_option maxHeartbeats 4000000 in
set_option maxRecDepth 100000 in
theorem wX4_saveTo_a21_0 {p : Program} {l : Launch} {e : Env} {s : State} {m : MethodId} {args : Array Value} {below : List Frame} {meth : Method} {c : Code} {D : va_G} {A : Nat → Prop} {q : Nat → Nat} {cI cZ : ClassId} {Q : State → Prop} {τ : St} (C : Cx p s m args meth c D (TY cI cZ) cX4_saveTo none 4 wsX4_saveTo RX4) (hret : RtV p l e rmX4_saveTo_a21 s m args below meth c D A cX4_saveTo Q (wE q cI cZ τ)) :
    ∀ (σ : St) (x2 : Int) (H : Heap) (locs : List Loc) (ls : Array Slot), Wd D A s (wE q cI cZ σ) H locs → lv_has ls 4 [(0, .ref (q 15)), (1, .ref (q 21)), (2, .int (zI x2))] → pX4_saveTo_a21_0 σ x2 = some τ → W p l e rmX4_saveTo_a21 s m args below meth c H locs 0 0 Q (F0 m 0 ls []) := by
  obtain ⟨hx, hb, hr, hml, hown, hts, hlk, hK, hN⟩ := id C
  intro σ x2 H locs ls hw hl hf
  rw [pX4_saveTo_a21_0] at hf
  refine lv_aload_n hx hb dX4_saveTo_0 rfl (lv_at hl 1 rfl) ?_
  refine lv_iload_n hx hb dX4_saveTo_1 rfl (lv_at hl 2 rfl) ?_
  obtain ⟨r2, h2, hf⟩ := bd_s hf
  replace hf := bt_s hf
  refine gSi (As := [.ref (q 21), .int (zI x2)]) (rest := []) C hw (tX4_isRow_a21 h2) (va_cwS 2 hts gX4_saveTo_X4_isRow rfl rfl rfl (by decide +kernel) ⟨Nat.le_of_ble_eq_true rfl, Nat.le_of_ble_eq_true rfl⟩) rfl hl.1 rfl (Nat.le_of_ble_eq_true rfl) dX4_saveTo_2 (fun H locs hw => ?_)
  obtain ⟨hg5, hf⟩ := gd_s hf
  refine zv_if_ne (tgt := 9) hx hb hg5 dX4_saveTo_5 (by decide) (fun (c5 : ¬ (r2 = 0)) => ?_) (fun (c5 : r2 = 0) => ?_)
  · rw [if_neg c5] at hf
    refine lv_aload_n hx hb dX4_saveTo_9 rfl (lv_at hl 0 rfl) ?_
    refine va_get (D := D) (ci := 4) (v := .ref (q 16)) (C := RX4) (T := TX4) (N := 9) hx hb hts (fun _ h => List.mem_cons_of_mem _ (List.mem_append_right _ h)) hown hK hw.1 15 rfl rfl 1 (by decide) (hts (.fieldLink RX4 15 "EggThrones$Morning" "states" "[I") (List.mem_of_getElem? (i := 1) rfl)) (fun _ h9 => h9) rfl dX4_saveTo_10 ?_
    refine lv_iconst (v := zI 0) hx hb dX4_saveTo_13 rfl ?_
    refine lv_aload_n hx hb dX4_saveTo_14 rfl (lv_at hl 1 rfl) ?_
    refine lv_iload_n hx hb dX4_saveTo_15 rfl (lv_at hl 2 rfl) ?_
    refine lv_bipush (v := zI 7) hx hb dX4_saveTo_16 (by decide +kernel) ?_
    obtain ⟨ha18, hf⟩ := gd_s hf
    refine zv_copyi (D := D) (rest := []) hx hb (hml.trans hl.1.symm) hown (hts (.methodLink RX4 106 arraycopyName) (List.mem_of_getElem? (i := 2) rfl)) (hts (.native arraycopyName) (List.mem_of_getElem? (i := 3) rfl)) (hts (.static arraycopyName) (List.mem_of_getElem? (i := 4) rfl)) (hts (.initialized "java/lang/System") (List.mem_of_getElem? (i := 5) rfl)) hK hw.1 hw.2.1 hw.2.2 16 21 0 0 rfl rfl rfl rfl ha18 (by decide) (by decide) (Nat.le_of_ble_eq_true rfl) (Nat.le_of_ble_eq_true rfl) dX4_saveTo_18 (fun H locs hP hD hS => ?_)
    have hw : Wd D A s (wE q cI cZ (sA σ 14 (va_cpy (σ.2 11) (σ.2 14) 0 (Int.toNat x2) 7))) H locs := wdaE_14 hP hD hS
    obtain ⟨σ18, e18, hf⟩ := nm_s hf
    replace hf := bt_s hf
    rw [← e18] at hw
    refine lv_aload_n hx hb dX4_saveTo_21 rfl (lv_at hl 0 rfl) ?_
    refine va_get (D := D) (ci := 4) (v := .ref (q 17)) (C := RX4) (T := TX4) (N := 9) hx hb hts (fun _ h => List.mem_cons_of_mem _ (List.mem_append_right _ h)) hown hK hw.1 15 rfl rfl 2 (by decide) (hts (.fieldLink RX4 19 "EggThrones$Morning" "boiled" "[I") (List.mem_of_getElem? (i := 6) rfl)) (fun _ h9 => h9) rfl dX4_saveTo_22 ?_
    refine lv_iconst (v := zI 0) hx hb dX4_saveTo_25 rfl ?_
    refine lv_aload_n hx hb dX4_saveTo_26 rfl (lv_at hl 1 rfl) ?_
    refine lv_iload_n hx hb dX4_saveTo_27 rfl (lv_at hl 2 rfl) ?_
    refine lv_bipush (v := zI 7) hx hb dX4_saveTo_28 (by decide +kernel) ?_
    refine zv_iadd hx hb dX4_saveTo_30 ?_
    refine lv_bipush (v := zI 7) hx hb dX4_saveTo_31 (by decide +kernel) ?_
    obtain ⟨ha33, hf⟩ := gd_s hf
    refine zv_copyi (D := D) (rest := []) hx hb (hml.trans hl.1.symm) hown (hts (.methodLink RX4 106 arraycopyName) (List.mem_of_getElem? (i := 2) rfl)) (hts (.native arraycopyName) (List.mem_of_getElem? (i := 3) rfl)) (hts (.static arraycopyName) (List.mem_of_getElem? (i := 4) rfl)) (hts (.initialized "java/lang/System") (List.mem_of_getElem? (i := 5) rfl)) hK hw.1 hw.2.1 hw.2.2 17 21 0 0 rfl rfl rfl rfl ha33 (by decide) (by decide) (Nat.le_of_ble_eq_true rfl) (Nat.le_of_ble_eq_true rfl) dX4_saveTo_33 (fun H locs hP hD hS => ?_)
    have hw : Wd D A s (wE q cI cZ (sA σ18 14 (va_cpy (σ18.2 12) (σ18.2 14) 0 (Int.toNat (x2 + 7)) 7))) H locs := wdaE_14 hP hD hS
    obtain ⟨σ33, e33, hf⟩ := nm_s hf
    replace hf := bt_s hf
    rw [← e33] at hw
    refine lv_iload_n hx hb dX4_saveTo_36 rfl (lv_at hl 2 rfl) ?_
    refine lv_bipush (v := zI 14) hx hb dX4_saveTo_37 (by decide +kernel) ?_
    refine zv_iadd hx hb dX4_saveTo_39 ?_
    refine lv_istore_n (lv' := [(3, .int (zI (x2 + 14))), (0, .ref (q 15)), (1, .ref (q 21)), (2, .int (zI x2))]) hx hb dX4_saveTo_40 rfl hl (by decide) rfl (fun ls hl => ?_)
    refine lv_aload_n hx hb dX4_saveTo_41 rfl (lv_at hl 2 rfl) ?_
    refine lv_iload_n hx hb dX4_saveTo_42 rfl (lv_at hl 0 rfl) ?_
    refine lv_aload_n hx hb dX4_saveTo_43 rfl (lv_at hl 1 rfl) ?_
    refine va_get (D := D) (ci := 4) (v := .int (zI (σ33.1 16))) (C := RX4) (T := TX4) (N := 9) hx hb hts (fun _ h => List.mem_cons_of_mem _ (List.mem_append_right _ h)) hown hK hw.1 15 rfl rfl 3 (by decide) (hts (.fieldLink RX4 22 "EggThrones$Morning" "king" "I") (List.mem_of_getElem? (i := 7) rfl)) (fun _ h9 => h9) rfl dX4_saveTo_44 ?_
    obtain ⟨hi47, hf⟩ := gd_s hf
    refine zv_iast (D := D) hx hb hK hw.1 hw.2.1 hw.2.2 21 0 rfl rfl hi47 (by decide) dX4_saveTo_47 (fun H locs hP hD hS => ?_)
    have hw : Wd D A s (wE q cI cZ (sA σ33 14 (va_up (σ33.2 14) (Int.toNat (x2 + 14)) (σ33.1 16)))) H locs := wdaE_14 hP hD hS
    obtain ⟨σ47, e47, hf⟩ := nm_s hf
    replace hf := bt_s hf
    rw [← e47] at hw
    refine lv_aload_n hx hb dX4_saveTo_48 rfl (lv_at hl 2 rfl) ?_
    refine lv_iload_n hx hb dX4_saveTo_49 rfl (lv_at hl 0 rfl) ?_
    refine lv_iconst (v := zI 1) hx hb dX4_saveTo_50 rfl ?_
    refine zv_iadd hx hb dX4_saveTo_51 ?_
    refine lv_aload_n hx hb dX4_saveTo_52 rfl (lv_at hl 1 rfl) ?_
    refine va_get (D := D) (ci := 4) (v := .int (zI (σ47.1 17))) (C := RX4) (T := TX4) (N := 9) hx hb hts (fun _ h => List.mem_cons_of_mem _ (List.mem_append_right _ h)) hown hK hw.1 15 rfl rfl 4 (by decide) (hts (.fieldLink RX4 26 "EggThrones$Morning" "left" "I") (List.mem_of_getElem? (i := 8) rfl)) (fun _ h9 => h9) rfl dX4_saveTo_53 ?_
    obtain ⟨hi56, hf⟩ := gd_s hf
    refine zv_iast (D := D) hx hb hK hw.1 hw.2.1 hw.2.2 21 0 rfl rfl hi56 (by decide) dX4_saveTo_56 (fun H locs hP hD hS => ?_)
    have hw : Wd D A s (wE q cI cZ (sA σ47 14 (va_up (σ47.2 14) (Int.toNat ((x2 + 14) + 1)) (σ47.1 17)))) H locs := wdaE_14 hP hD hS
    obtain ⟨σ56, e56, hf⟩ := nm_s hf
    replace hf := bt_s hf
    rw [← e56] at hw
    refine lv_aload_n hx hb dX4_saveTo_57 rfl (lv_at hl 2 rfl) ?_
    refine lv_iload_n hx hb dX4_saveTo_58 rfl (lv_at hl 0 rfl) ?_
    refine lv_iconst (v := zI 2) hx hb dX4_saveTo_59 rfl ?_
    refine zv_iadd hx hb dX4_saveTo_60 ?_
    refine lv_aload_n hx hb dX4_saveTo_61 rfl (lv_at hl 1 rfl) ?_
    refine va_get (D := D) (ci := 4) (v := .int (zI (σ56.1 18))) (C := RX4) (T := TX4) (N := 9) hx hb hts (fun _ h => List.mem_cons_of_mem _ (List.mem_append_right _ h)) hown hK hw.1 15 rfl rfl 5 (by decide) (hts (.fieldLink RX4 29 "EggThrones$Morning" "soldiers" "I") (List.mem_of_getElem? (i := 9) rfl)) (fun _ h9 => h9) rfl dX4_saveTo_62 ?_
    obtain ⟨hi65, hf⟩ := gd_s hf
    refine zv_iast (D := D) hx hb hK hw.1 hw.2.1 hw.2.2 21 0 rfl rfl hi65 (by decide) dX4_saveTo_65 (fun H locs hP hD hS => ?_)
    have hw : Wd D A s (wE q cI cZ (sA σ56 14 (va_up (σ56.2 14) (Int.toNat ((x2 + 14) + 2)) (σ56.1 18)))) H locs := wdaE_14 hP hD hS
    obtain ⟨σ65, e65, hf⟩ := nm_s hf
    replace hf := bt_s hf
    rw [← e65] at hw
    refine lv_aload_n hx hb dX4_saveTo_66 rfl (lv_at hl 2 rfl) ?_
    refine lv_iload_n hx hb dX4_saveTo_67 rfl (lv_at hl 0 rfl) ?_
    refine lv_iconst (v := zI 3) hx hb dX4_saveTo_68 rfl ?_
    refine zv_iadd hx hb dX4_saveTo_69 ?_
    refine lv_aload_n hx hb dX4_saveTo_70 rfl (lv_at hl 1 rfl) ?_
    refine va_get (D := D) (ci := 4) (v := .int (zI (σ65.1 19))) (C := RX4) (T := TX4) (N := 9) hx hb hts (fun _ h => List.mem_cons_of_mem _ (List.mem_append_right _ h)) hown hK hw.1 15 rfl rfl 6 (by decide) (hts (.fieldLink RX4 32 "EggThrones$Morning" "minutes" "I") (List.mem_of_getElem? (i := 10) rfl)) (fun _ h9 => h9) rfl dX4_saveTo_71 ?_
    obtain ⟨hi74, hf⟩ := gd_s hf
    refine zv_iast (D := D) hx hb hK hw.1 hw.2.1 hw.2.2 21 0 rfl rfl hi74 (by decide) dX4_saveTo_74 (fun H locs hP hD hS => ?_)
    have hw : Wd D A s (wE q cI cZ (sA σ65 14 (va_up (σ65.2 14) (Int.toNat ((x2 + 14) + 3)) (σ65.1 19)))) H locs := wdaE_14 hP hD hS
    obtain ⟨σ74, e74, hf⟩ := nm_s hf
    replace hf := bt_s hf
    rw [← e74] at hw
    refine lv_aload_n hx hb dX4_saveTo_75 rfl (lv_at hl 2 rfl) ?_
    refine lv_iload_n hx hb dX4_saveTo_76 rfl (lv_at hl 0 rfl) ?_
    refine lv_iconst (v := zI 4) hx hb dX4_saveTo_77 rfl ?_
    refine zv_iadd hx hb dX4_saveTo_78 ?_
    refine lv_aload_n hx hb dX4_saveTo_79 rfl (lv_at hl 1 rfl) ?_
    refine va_get (D := D) (ci := 4) (v := .int (zI (σ74.1 20))) (C := RX4) (T := TX4) (N := 9) hx hb hts (fun _ h => List.mem_cons_of_mem _ (List.mem_append_right _ h)) hown hK hw.1 15 rfl rfl 7 (by decide) (hts (.fieldLink RX4 35 "EggThrones$Morning" "reigned" "I") (List.mem_of_getElem? (i := 11) rfl)) (fun _ h9 => h9) rfl dX4_saveTo_80 ?_
    obtain ⟨hi83, hf⟩ := gd_s hf
    refine zv_iast (D := D) hx hb hK hw.1 hw.2.1 hw.2.2 21 0 rfl rfl hi83 (by decide) dX4_saveTo_83 (fun H locs hP hD hS => ?_)
    have hw : Wd D A s (wE q cI cZ (sA σ74 14 (va_up (σ74.2 14) (Int.toNat ((x2 + 14) + 4)) (σ74.1 20)))) H locs := wdaE_14 hP hD hS
    obtain ⟨σ83, e83, hf⟩ := nm_s hf
    replace hf := bt_s hf
    rw [← e83] at hw
    refine lv_aload_n hx hb dX4_saveTo_84 rfl (lv_at hl 2 rfl) ?_
    refine lv_iload_n hx hb dX4_saveTo_85 rfl (lv_at hl 0 rfl) ?_
    refine lv_iconst (v := zI 5) hx hb dX4_saveTo_86 rfl ?_
    refine zv_iadd hx hb dX4_saveTo_87 ?_
    refine lv_aload_n hx hb dX4_saveTo_88 rfl (lv_at hl 1 rfl) ?_
    refine va_get (D := D) (ci := 4) (v := .int (zI (σ83.1 21))) (C := RX4) (T := TX4) (N := 9) hx hb hts (fun _ h => List.mem_cons_of_mem _ (List.mem_append_right _ h)) hown hK hw.1 15 rfl rfl 8 (by decide) (hts (.fieldLink RX4 38 "EggThrones$Morning" "scraped" "I") (List.mem_of_getElem? (i := 12) rfl)) (fun _ h9 => h9) rfl dX4_saveTo_89 ?_
    obtain ⟨hi92, hf⟩ := gd_s hf
    refine zv_iast (D := D) hx hb hK hw.1 hw.2.1 hw.2.2 21 0 rfl rfl hi92 (by decide) dX4_saveTo_92 (fun H locs hP hD hS => ?_)
    have hw : Wd D A s (wE q cI cZ (sA σ83 14 (va_up (σ83.2 14) (Int.toNat ((x2 + 14) + 5)) (σ83.1 21)))) H locs := wdaE_14 hP hD hS
    obtain ⟨σ92, e92, hf⟩ := nm_s hf
    replace hf := bt_s hf
    rw [← e92] at hw
    cases hf
    exact hret H locs ls 93 dX4_saveTo_93 hw
  · rw [if_pos c5] at hf
    cases hf
    exact hret H locs ls 8 dX4_saveTo_8 hw
set_option maxHeartbeats 4000000 in
set_option maxRecDepth 100000 in
theorem tX4_saveTo_a21 {l : Launch} {D : va_G} {A : Nat → Prop} {cI cZ : ClassId} {q : Nat → Nat} {σ : St} {x2 : Int} {τ : St} (hf : pX4_saveTo_a21 σ x2 = some τ) : Met l yX4_saveTo wsX4_saveTo rmX4_saveTo_a21 (va_Pc [.ref (q 15), .ref (q 21), .int (zI x2)] (CX D (TY cI cZ) A (wE q cI cZ σ))) (QV D (TY cI cZ) A (wE q cI cZ τ)) 0 0 A := by
  refine opn (cc := cX4_saveTo) (maxL := 4) (ret := none) (by decide) rfl (Nat.le_of_ble_eq_true rfl) (fun p e s m below meth c C ls hw hl => ?_)
  have hl : lv_has ls 4 [(0, .ref (q 15)), (1, .ref (q 21)), (2, .int (zI x2))] := hl
  rw [pX4_saveTo_a21] at hf
  exact wX4_saveTo_a21_0 C (rtV C) σ x2 _ _ ls hw (lv_sub hl [0, 1, 2] rfl) hf
abbrev rmX3_take : Room := { frames := 2, cells := 0, slots := 0, locals := 83 }
set_option maxHeartbeats 4000000 in
set_option maxRecDepth 100000 in
theorem wX3_take_0 {p : Program} {l : Launch} {e : Env} {s : State} {m : MethodId} {args : Array Value} {below : List Frame} {meth : Method} {c : Code} {D : va_G} {A : Nat → Prop} {q : Nat → Nat} {cI cZ : ClassId} {Q : State → Prop} {τ : St} (C : Cx p s m args meth c D (TY cI cZ) cX3_take none 4 wsX3_take RX3) (hret : RtV p l e rmX3_take s m args below meth c D A cX3_take Q (wE q cI cZ τ)) :
    ∀ (σ : St) (x1 : Int) (x3 : Int) (H : Heap) (locs : List Loc) (ls : Array Slot), Wd D A s (wE q cI cZ σ) H locs → lv_has ls 4 [(0, .ref (q 20)), (1, .int (zI x1)), (2, .ref (q 15)), (3, .int (zI x3))] → pX3_take_0 σ x1 x3 = some τ → W p l e rmX3_take s m args below meth c H locs 0 0 Q (F0 m 0 ls []) := by
  obtain ⟨hx, hb, hr, hml, hown, hts, hlk, hK, hN⟩ := id C
  intro σ x1 x3 H locs ls hw hl hf
  rw [pX3_take_0] at hf
  refine lv_iload_n hx hb dX3_take_0 rfl (lv_at hl 1 rfl) ?_
  obtain ⟨hg1, hf⟩ := gd_s hf
  refine zv_if_lt (tgt := 35) hx hb hg1 dX3_take_1 (by decide) (fun (c1 : x1 < 0) => ?_) (fun (c1 : ¬ (x1 < 0)) => ?_)
  · rw [if_pos c1] at hf
    cases hf
    exact hret H locs ls 35 dX3_take_35 hw
  · rw [if_neg c1] at hf
    refine lv_iload_n hx hb dX3_take_4 rfl (lv_at hl 1 rfl) ?_
    refine lv_iconst (v := zI 2) hx hb dX3_take_5 rfl ?_
    obtain ⟨hg6, hf⟩ := gd_s hf
    refine zv_icmp_ge (tgt := 35) hx hb ⟨hg6, by decide⟩ dX3_take_6 (by decide) (fun (c6 : 2 ≤ x1) => ?_) (fun (c6 : ¬ (2 ≤ x1)) => ?_)
    · rw [if_pos c6] at hf
      cases hf
      exact hret H locs ls 35 dX3_take_35 hw
    · rw [if_neg c6] at hf
      refine lv_aload_n hx hb dX3_take_9 rfl (lv_at hl 2 rfl) ?_
      refine lv_aload_n hx hb dX3_take_10 rfl (lv_at hl 0 rfl) ?_
      refine va_get (D := D) (ci := 3) (v := .ref (q 21)) (C := RX3) (T := TX3) (N := 3) hx hb hts (fun _ h => List.mem_cons_of_mem _ (List.mem_append_left _ (List.mem_append_right _ h))) hown hK hw.1 20 rfl rfl 0 (by decide) (hts (.fieldLink RX3 11 "EggThrones$Images" "rows" "[I") (List.mem_of_getElem? (i := 1) rfl)) (fun _ h9 => h9) rfl dX3_take_11 ?_
      refine lv_iload_n hx hb dX3_take_14 rfl (lv_at hl 1 rfl) ?_
      refine lv_bipush (v := zI 20) hx hb dX3_take_15 (by decide +kernel) ?_
      refine zv_imul hx hb dX3_take_17 ?_
      obtain ⟨σ18, h18, hf⟩ := bd_s hf
      replace hf := bt_s hf
      refine gVv (As := [.ref (q 21), .int (zI (x1 * 20))]) (rest := []) C hw (tX4_saveTo_a21 h18) (cwV 2 hts gX3_take_X4_saveTo rfl rfl rfl (by decide +kernel) ⟨Nat.le_of_ble_eq_true rfl, Nat.le_of_ble_eq_true rfl⟩) 4 15 rfl rfl rfl hl.1 rfl (Nat.le_of_ble_eq_true rfl) dX3_take_18 (fun H locs hw => ?_)
      refine lv_aload_n hx hb dX3_take_21 rfl (lv_at hl 0 rfl) ?_
      refine va_get (D := D) (ci := 3) (v := .ref (q 22)) (C := RX3) (T := TX3) (N := 3) hx hb hts (fun _ h => List.mem_cons_of_mem _ (List.mem_append_left _ (List.mem_append_right _ h))) hown hK hw.1 20 rfl rfl 1 (by decide) (hts (.fieldLink RX3 17 "EggThrones$Images" "seeds" "[I") (List.mem_of_getElem? (i := 2) rfl)) (fun _ h9 => h9) rfl dX3_take_22 ?_
      refine lv_iload_n hx hb dX3_take_25 rfl (lv_at hl 1 rfl) ?_
      refine lv_iload_n hx hb dX3_take_26 rfl (lv_at hl 3 rfl) ?_
      obtain ⟨hi27, hf⟩ := gd_s hf
      refine zv_iast (D := D) hx hb hK hw.1 hw.2.1 hw.2.2 22 0 rfl rfl hi27 (by decide) dX3_take_27 (fun H locs hP hD hS => ?_)
      have hw : Wd D A s (wE q cI cZ (sA σ18 15 (va_up (σ18.2 15) (Int.toNat x1) x3))) H locs := wdaE_15 hP hD hS
      obtain ⟨σ27, e27, hf⟩ := nm_s hf
      replace hf := bt_s hf
      rw [← e27] at hw
      refine lv_aload_n hx hb dX3_take_28 rfl (lv_at hl 0 rfl) ?_
      refine va_get (D := D) (ci := 3) (v := .ref (q 23)) (C := RX3) (T := TX3) (N := 3) hx hb hts (fun _ h => List.mem_cons_of_mem _ (List.mem_append_left _ (List.mem_append_right _ h))) hown hK hw.1 20 rfl rfl 2 (by decide) (hts (.fieldLink RX3 20 "EggThrones$Images" "taken" "[Z") (List.mem_of_getElem? (i := 3) rfl)) (fun _ h9 => h9) rfl dX3_take_29 ?_
      refine lv_iload_n hx hb dX3_take_32 rfl (lv_at hl 1 rfl) ?_
      refine lv_iconst (v := zI 1) hx hb dX3_take_33 rfl ?_
      obtain ⟨hi34, hf⟩ := gd_s hf
      refine zv_zast (D := D) hx hb hK hw.1 hw.2.1 hw.2.2 23 1 rfl rfl hi34 (by decide) (by decide) dX3_take_34 (fun H locs hP hD hS => ?_)
      have hw : Wd D A s (wE q cI cZ (sA σ27 16 (va_up (σ27.2 16) (Int.toNat x1) 1))) H locs := wdaE_16 hP hD hS
      obtain ⟨σ34, e34, hf⟩ := nm_s hf
      replace hf := bt_s hf
      rw [← e34] at hw
      cases hf
      exact hret H locs ls 35 dX3_take_35 hw
set_option maxHeartbeats 4000000 in
set_option maxRecDepth 100000 in
theorem tX3_take {l : Launch} {D : va_G} {A : Nat → Prop} {cI cZ : ClassId} {q : Nat → Nat} {σ : St} {x1 : Int} {x3 : Int} {τ : St} (hf : pX3_take σ x1 x3 = some τ) : Met l yX3_take wsX3_take rmX3_take (va_Pc [.ref (q 20), .int (zI x1), .ref (q 15), .int (zI x3)] (CX D (TY cI cZ) A (wE q cI cZ σ))) (QV D (TY cI cZ) A (wE q cI cZ τ)) 0 0 A := by
  refine opn (cc := cX3_take) (maxL := 4) (ret := none) (by decide) rfl (Nat.le_of_ble_eq_true rfl) (fun p e s m below meth c C ls hw hl => ?_)
  have hl : lv_has ls 4 [(0, .ref (q 20)), (1, .int (zI x1)), (2, .ref (q 15)), (3, .int (zI x3))] := hl
  rw [pX3_take] at hf
  exact wX3_take_0 C (rtV C) σ x1 x3 _ _ ls hw (lv_sub hl [0, 1, 2, 3] rfl) hf
abbrev rmX10_keep : Room := { frames := 3, cells := 0, slots := 0, locals := 106 }
set_option maxHeartbeats 4000000 in
set_option maxRecDepth 100000 in
theorem wX10_keep_0 {p : Program} {l : Launch} {e : Env} {s : State} {m : MethodId} {args : Array Value} {below : List Frame} {meth : Method} {c : Code} {D : va_G} {A : Nat → Prop} {q : Nat → Nat} {cI cZ : ClassId} {Q : State → Prop} {r : Int} {τ : St} (C : Cx p s m args meth c D (TY cI cZ) cX10_keep (some .int) 2 wsX10_keep RX10) (hret : RtI p l e rmX10_keep s m args below meth c D A cX10_keep Q (wE q cI cZ τ) (zI r)) :
    ∀ (σ : St) (x1 : Int) (H : Heap) (locs : List Loc) (ls : Array Slot), Wd D A s (wE q cI cZ σ) H locs → lv_has ls 2 [(0, .ref (q 0)), (1, .int (zI x1))] → pX10_keep_0 σ x1 = some (r, τ) → W p l e rmX10_keep s m args below meth c H locs 0 0 Q (F0 m 0 ls []) := by
  obtain ⟨hx, hb, hr, hml, hown, hts, hlk, hK, hN⟩ := id C
  intro σ x1 H locs ls hw hl hf
  rw [pX10_keep_0] at hf
  refine lv_iload_n hx hb dX10_keep_0 rfl (lv_at hl 1 rfl) ?_
  refine lv_iconst (v := zI 0) hx hb dX10_keep_1 rfl ?_
  refine lv_iconst (v := zI 1) hx hb dX10_keep_2 rfl ?_
  obtain ⟨r3, h3, hf⟩ := bd_s hf
  replace hf := bt_s hf
  refine gSi (As := [.int (zI x1), .int (zI 0), .int (zI 1)]) (rest := []) C hw (tX10_isWithin h3) (va_cwS 3 hts gX10_keep_X10_isWithin rfl rfl rfl (by decide +kernel) ⟨Nat.le_of_ble_eq_true rfl, Nat.le_of_ble_eq_true rfl⟩) rfl hl.1 rfl (Nat.le_of_ble_eq_true rfl) dX10_keep_3 (fun H locs hw => ?_)
  obtain ⟨hg6, hf⟩ := gd_s hf
  refine zv_if_ne (tgt := 12) hx hb hg6 dX10_keep_6 (by decide) (fun (c6 : ¬ (r3 = 0)) => ?_) (fun (c6 : r3 = 0) => ?_)
  · rw [if_neg c6] at hf
    refine lv_aload_n hx hb dX10_keep_12 rfl (lv_at hl 0 rfl) ?_
    refine va_get (D := D) (ci := 10) (v := .ref (q 20)) (C := RX10) (T := TX10) (N := 13) hx hb hts (fun _ h => List.mem_cons_of_mem _ (List.mem_append_left _ (List.mem_append_left _ (List.mem_append_left _ (List.mem_append_right _ h))))) hown hK hw.1 0 rfl rfl 5 (by decide) (hts (.fieldLink RX10 45 "EggThrones" "images" "LEggThrones$Images;") (List.mem_of_getElem? (i := 2) rfl)) (fun _ h9 => h9) rfl dX10_keep_13 ?_
    refine lv_iload_n hx hb dX10_keep_16 rfl (lv_at hl 1 rfl) ?_
    refine lv_aload_n hx hb dX10_keep_17 rfl (lv_at hl 0 rfl) ?_
    refine va_get (D := D) (ci := 10) (v := .ref (q 15)) (C := RX10) (T := TX10) (N := 13) hx hb hts (fun _ h => List.mem_cons_of_mem _ (List.mem_append_left _ (List.mem_append_left _ (List.mem_append_left _ (List.mem_append_right _ h))))) hown hK hw.1 0 rfl rfl 3 (by decide) (hts (.fieldLink RX10 31 "EggThrones" "now" "LEggThrones$Morning;") (List.mem_of_getElem? (i := 3) rfl)) (fun _ h9 => h9) rfl dX10_keep_18 ?_
    refine lv_aload_n hx hb dX10_keep_21 rfl (lv_at hl 0 rfl) ?_
    refine va_get (D := D) (ci := 10) (v := .int (zI (σ.1 1))) (C := RX10) (T := TX10) (N := 13) hx hb hts (fun _ h => List.mem_cons_of_mem _ (List.mem_append_left _ (List.mem_append_left _ (List.mem_append_left _ (List.mem_append_right _ h))))) hown hK hw.1 0 rfl rfl 12 (by decide) (hts (.fieldLink RX10 88 "EggThrones" "drawSeed" "I") (List.mem_of_getElem? (i := 4) rfl)) (fun _ h9 => h9) rfl dX10_keep_22 ?_
    obtain ⟨σ25, h25, hf⟩ := bd_s hf
    replace hf := bt_s hf
    refine gVv (As := [.int (zI x1), .ref (q 15), .int (zI (σ.1 1))]) (rest := []) C hw (tX3_take h25) (cwV 3 hts gX10_keep_X3_take rfl rfl rfl (by decide +kernel) ⟨Nat.le_of_ble_eq_true rfl, Nat.le_of_ble_eq_true rfl⟩) 3 20 rfl rfl rfl hl.1 rfl (Nat.le_of_ble_eq_true rfl) dX10_keep_25 (fun H locs hw => ?_)
    refine lv_aload_n hx hb dX10_keep_28 rfl (lv_at hl 0 rfl) ?_
    refine va_get (D := D) (ci := 10) (v := .ref (q 18)) (C := RX10) (T := TX10) (N := 13) hx hb hts (fun _ h => List.mem_cons_of_mem _ (List.mem_append_left _ (List.mem_append_left _ (List.mem_append_left _ (List.mem_append_right _ h))))) hown hK hw.1 0 rfl rfl 4 (by decide) (hts (.fieldLink RX10 38 "EggThrones" "past" "LEggThrones$Past;") (List.mem_of_getElem? (i := 5) rfl)) (fun _ h9 => h9) rfl dX10_keep_29 ?_
    obtain ⟨σ32, h32, hf⟩ := bd_s hf
    replace hf := bt_s hf
    refine gVv (As := []) (rest := []) C hw (tX5_forget h32) (cwV 0 hts gX10_keep_X5_forget rfl rfl rfl (by decide +kernel) ⟨Nat.le_of_ble_eq_true rfl, Nat.le_of_ble_eq_true rfl⟩) 5 18 rfl rfl rfl hl.1 rfl (Nat.le_of_ble_eq_true rfl) dX10_keep_32 (fun H locs hw => ?_)
    refine lv_iconst (v := zI 1) hx hb dX10_keep_35 rfl ?_
    cases hf
    exact hret H locs ls 36 dX10_keep_36 hw
  · rw [if_pos c6] at hf
    refine zv_ldc hx hb (-1000000001) (by decide +kernel) hown (hts (.constant RX10 175 (-1000000001)) (List.mem_of_getElem? (i := 1) rfl)) dX10_keep_9 ?_
    cases hf
    exact hret H locs ls 11 dX10_keep_11 hw
set_option maxHeartbeats 4000000 in
set_option maxRecDepth 100000 in
theorem tX10_keep {l : Launch} {D : va_G} {A : Nat → Prop} {cI cZ : ClassId} {q : Nat → Nat} {σ : St} {x1 : Int} {r : Int} {τ : St} (hf : pX10_keep σ x1 = some (r, τ)) : Met l yX10_keep wsX10_keep rmX10_keep (va_Pc [.ref (q 0), .int (zI x1)] (CX D (TY cI cZ) A (wE q cI cZ σ))) (QI D (TY cI cZ) A (wE q cI cZ τ) (zI r)) 0 0 A := by
  refine opn (cc := cX10_keep) (maxL := 2) (ret := (some .int)) (by decide) rfl (Nat.le_of_ble_eq_true rfl) (fun p e s m below meth c C ls hw hl => ?_)
  have hl : lv_has ls 2 [(0, .ref (q 0)), (1, .int (zI x1))] := hl
  rw [pX10_keep] at hf
  exact wX10_keep_0 C (rtI C) σ x1 _ _ ls hw (lv_sub hl [0, 1] rfl) hf
