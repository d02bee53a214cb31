abbrev rmX10_liked : Room := { frames := 11, cells := 0, slots := 0, locals := 527 }
set_option maxHeartbeats 4000000 in
set_option maxRecDepth 100000 in
theorem wX10_liked_29 {p : Program} {l : Launch} {e : Env} {s : State} {m : MethodId} {args : Array Value} {below : List Frame} {meth : Method} {c : Code} {D : va_G} {A : Nat → Prop} {q : Nat → Nat} {cI cZ : ClassId} {Q : State → Prop} {r : Int} {τ : St} (C : Cx p s m args meth c D (TY cI cZ) cX10_liked (some .int) 3 wsX10_liked RX10) (hret : RtI p l e rmX10_liked s m args below meth c D A cX10_liked Q (wE q cI cZ τ) (zI r)) :
    ∀ (σ : St) (x1 : Int) (x2 : Int) (H : Heap) (locs : List Loc) (ls : Array Slot), Wd D A s (wE q cI cZ σ) H locs → lv_has ls 3 [(0, .ref (q 0)), (1, .int (zI x1)), (2, .int (zI x2))] → pX10_liked_29 σ x1 x2 = some (r, τ) → W p l e rmX10_liked s m args below meth c H locs 0 0 Q (F0 m 29 ls []) := by
  obtain ⟨hx, hb, hr, hml, hown, hts, hlk, hK, hN⟩ := id C
  intro σ x1 x2 H locs ls hw hl hf
  rw [pX10_liked_29] at hf
  refine lv_aload_n hx hb dX10_liked_29 rfl (lv_at hl 0 rfl) ?_
  refine va_get (D := D) (ci := 10) (v := .ref (q 36)) (C := RX10) (T := TX10) (N := 13) hx hb hts (fun _ h => List.mem_cons_of_mem _ (List.mem_append_left _ (List.mem_append_left _ (List.mem_append_left _ (List.mem_append_right _ h))))) hown hK hw.1 0 rfl rfl 10 (by decide) (hts (.fieldLink RX10 80 "EggThrones" "sharing" "LEggThrones$Sharing;") (List.mem_of_getElem? (i := 3) rfl)) (fun _ h9 => h9) rfl dX10_liked_30 ?_
  refine lv_aload_n hx hb dX10_liked_33 rfl (lv_at hl 0 rfl) ?_
  refine va_get (D := D) (ci := 10) (v := .ref (q 1)) (C := RX10) (T := TX10) (N := 13) hx hb hts (fun _ h => List.mem_cons_of_mem _ (List.mem_append_left _ (List.mem_append_left _ (List.mem_append_left _ (List.mem_append_right _ h))))) hown hK hw.1 0 rfl rfl 1 (by decide) (hts (.fieldLink RX10 19 "EggThrones" "laid" "LEggThrones$Table;") (List.mem_of_getElem? (i := 1) rfl)) (fun _ h9 => h9) rfl dX10_liked_34 ?_
  refine lv_aload_n hx hb dX10_liked_37 rfl (lv_at hl 0 rfl) ?_
  refine va_get (D := D) (ci := 10) (v := .ref (q 15)) (C := RX10) (T := TX10) (N := 13) hx hb hts (fun _ h => List.mem_cons_of_mem _ (List.mem_append_left _ (List.mem_append_left _ (List.mem_append_left _ (List.mem_append_right _ h))))) hown hK hw.1 0 rfl rfl 3 (by decide) (hts (.fieldLink RX10 31 "EggThrones" "now" "LEggThrones$Morning;") (List.mem_of_getElem? (i := 4) rfl)) (fun _ h9 => h9) rfl dX10_liked_38 ?_
  obtain ⟨σ41, h41, hf⟩ := bd_s hf
  replace hf := bt_s hf
  refine gVv (As := [.ref (q 1), .ref (q 15)]) (rest := []) C hw (tX6_ask_c1 h41) (cwV 2 hts gX10_liked_X6_ask rfl rfl rfl (by decide +kernel) ⟨Nat.le_of_ble_eq_true rfl, Nat.le_of_ble_eq_true rfl⟩) 6 36 rfl rfl rfl hl.1 rfl (Nat.le_of_ble_eq_true rfl) dX10_liked_41 (fun H locs hw => ?_)
  refine lv_iload_n hx hb dX10_liked_44 rfl (lv_at hl 2 rfl) ?_
  obtain ⟨hg45, hf⟩ := gd_s hf
  refine zv_if_eq (tgt := 58) hx hb hg45 dX10_liked_45 (by decide) (fun (c45 : x2 = 0) => ?_) (fun (c45 : ¬ (x2 = 0)) => ?_)
  · rw [if_pos c45] at hf
    refine lv_aload_n hx hb dX10_liked_58 rfl (lv_at hl 0 rfl) ?_
    refine va_get (D := D) (ci := 10) (v := .ref (q 36)) (C := RX10) (T := TX10) (N := 13) hx hb hts (fun _ h => List.mem_cons_of_mem _ (List.mem_append_left _ (List.mem_append_left _ (List.mem_append_left _ (List.mem_append_right _ h))))) hown hK hw.1 0 rfl rfl 10 (by decide) (hts (.fieldLink RX10 80 "EggThrones" "sharing" "LEggThrones$Sharing;") (List.mem_of_getElem? (i := 3) rfl)) (fun _ h9 => h9) rfl dX10_liked_59 ?_
    refine lv_iload_n hx hb dX10_liked_62 rfl (lv_at hl 1 rfl) ?_
    obtain ⟨r63, h63, hf⟩ := bd_s hf
    replace hf := bt_s hf
    refine gVi (As := [.int (zI x1)]) (rest := []) C hw (tX6_eggFor h63) (cwV 1 hts gX10_liked_X6_eggFor rfl rfl rfl (by decide +kernel) ⟨Nat.le_of_ble_eq_true rfl, Nat.le_of_ble_eq_true rfl⟩) 6 36 rfl rfl rfl hl.1 rfl (Nat.le_of_ble_eq_true rfl) dX10_liked_63 (fun H locs hw => ?_)
    cases hf
    exact hret H locs ls 66 dX10_liked_66 hw
  · rw [if_neg c45] at hf
    refine lv_aload_n hx hb dX10_liked_48 rfl (lv_at hl 0 rfl) ?_
    refine va_get (D := D) (ci := 10) (v := .ref (q 36)) (C := RX10) (T := TX10) (N := 13) hx hb hts (fun _ h => List.mem_cons_of_mem _ (List.mem_append_left _ (List.mem_append_left _ (List.mem_append_left _ (List.mem_append_right _ h))))) hown hK hw.1 0 rfl rfl 10 (by decide) (hts (.fieldLink RX10 80 "EggThrones" "sharing" "LEggThrones$Sharing;") (List.mem_of_getElem? (i := 3) rfl)) (fun _ h9 => h9) rfl dX10_liked_49 ?_
    obtain ⟨r52, h52, hf⟩ := bd_s hf
    replace hf := bt_s hf
    refine gVi (As := []) (rest := []) C hw (tX6_most h52) (cwV 0 hts gX10_liked_X6_most rfl rfl rfl (by decide +kernel) ⟨Nat.le_of_ble_eq_true rfl, Nat.le_of_ble_eq_true rfl⟩) 6 36 rfl rfl rfl hl.1 rfl (Nat.le_of_ble_eq_true rfl) dX10_liked_52 (fun H locs hw => ?_)
    refine lv_goto (tgt := 66) hx hb dX10_liked_55 (by decide) ?_
    cases hf
    exact hret H locs ls 66 dX10_liked_66 hw
set_option maxHeartbeats 4000000 in
set_option maxRecDepth 100000 in
theorem wX10_liked_10 {p : Program} {l : Launch} {e : Env} {s : State} {m : MethodId} {args : Array Value} {below : List Frame} {meth : Method} {c : Code} {D : va_G} {A : Nat → Prop} {q : Nat → Nat} {cI cZ : ClassId} {Q : State → Prop} {r : Int} {τ : St} (C : Cx p s m args meth c D (TY cI cZ) cX10_liked (some .int) 3 wsX10_liked RX10) (hret : RtI p l e rmX10_liked s m args below meth c D A cX10_liked Q (wE q cI cZ τ) (zI r)) :
    ∀ (σ : St) (x1 : Int) (t0 : Int) (H : Heap) (locs : List Loc) (ls : Array Slot), Wd D A s (wE q cI cZ σ) H locs → lv_has ls 3 [(0, .ref (q 0)), (1, .int (zI x1))] → pX10_liked_10 σ x1 t0 = some (r, τ) → W p l e rmX10_liked s m args below meth c H locs 0 0 Q (F0 m 10 ls [.int (zI t0)]) := by
  obtain ⟨hx, hb, hr, hml, hown, hts, hlk, hK, hN⟩ := id C
  intro σ x1 t0 H locs ls hw hl hf
  rw [pX10_liked_10] at hf
  refine lv_istore_n (lv' := [(2, .int (zI t0)), (0, .ref (q 0)), (1, .int (zI x1))]) hx hb dX10_liked_10 rfl hl (by decide) rfl (fun ls hl => ?_)
  refine lv_iload_n hx hb dX10_liked_11 rfl (lv_at hl 0 rfl) ?_
  obtain ⟨hg12, hf⟩ := gd_s hf
  refine zv_if_ne (tgt := 29) hx hb hg12 dX10_liked_12 (by decide) (fun (c12 : ¬ (t0 = 0)) => ?_) (fun (c12 : t0 = 0) => ?_)
  · rw [if_neg c12] at hf
    exact wX10_liked_29 C hret σ x1 t0 H locs ls hw (lv_sub hl [1, 2, 0] rfl) hf
  · rw [if_pos c12] at hf
    refine lv_aload_n hx hb dX10_liked_15 rfl (lv_at hl 1 rfl) ?_
    refine va_get (D := D) (ci := 10) (v := .ref (q 1)) (C := RX10) (T := TX10) (N := 13) hx hb hts (fun _ h => List.mem_cons_of_mem _ (List.mem_append_left _ (List.mem_append_left _ (List.mem_append_left _ (List.mem_append_right _ h))))) hown hK hw.1 0 rfl rfl 1 (by decide) (hts (.fieldLink RX10 19 "EggThrones" "laid" "LEggThrones$Table;") (List.mem_of_getElem? (i := 1) rfl)) (fun _ h9 => h9) rfl dX10_liked_16 ?_
    refine lv_iload_n hx hb dX10_liked_19 rfl (lv_at hl 2 rfl) ?_
    obtain ⟨r20, h20, hf⟩ := bd_s hf
    replace hf := bt_s hf
    refine gVi (As := [.int (zI x1)]) (rest := []) C hw (tX8_hasEater_c1 h20) (cwV 1 hts gX10_liked_X8_hasEater rfl rfl rfl (by decide +kernel) ⟨Nat.le_of_ble_eq_true rfl, Nat.le_of_ble_eq_true rfl⟩) 8 1 rfl rfl rfl hl.1 rfl (Nat.le_of_ble_eq_true rfl) dX10_liked_20 (fun H locs hw => ?_)
    obtain ⟨hg23, hf⟩ := gd_s hf
    refine zv_if_ne (tgt := 29) hx hb hg23 dX10_liked_23 (by decide) (fun (c23 : ¬ (r20 = 0)) => ?_) (fun (c23 : r20 = 0) => ?_)
    · rw [if_neg c23] at hf
      exact wX10_liked_29 C hret σ x1 t0 H locs ls hw (lv_sub hl [1, 2, 0] rfl) hf
    · rw [if_pos c23] at hf
      refine zv_ldc hx hb (-1000000001) (by decide +kernel) hown (hts (.constant RX10 175 (-1000000001)) (List.mem_of_getElem? (i := 2) rfl)) dX10_liked_26 ?_
      cases hf
      exact hret H locs ls 28 dX10_liked_28 hw
set_option maxHeartbeats 4000000 in
set_option maxRecDepth 100000 in
theorem wX10_liked_0 {p : Program} {l : Launch} {e : Env} {s : State} {m : MethodId} {args : Array Value} {below : List Frame} {meth : Method} {c : Code} {D : va_G} {A : Nat → Prop} {q : Nat → Nat} {cI cZ : ClassId} {Q : State → Prop} {r : Int} {τ : St} (C : Cx p s m args meth c D (TY cI cZ) cX10_liked (some .int) 3 wsX10_liked RX10) (hret : RtI p l e rmX10_liked s m args below meth c D A cX10_liked Q (wE q cI cZ τ) (zI r)) :
    ∀ (σ : St) (x1 : Int) (H : Heap) (locs : List Loc) (ls : Array Slot), Wd D A s (wE q cI cZ σ) H locs → lv_has ls 3 [(0, .ref (q 0)), (1, .int (zI x1))] → pX10_liked_0 σ x1 = some (r, τ) → W p l e rmX10_liked s m args below meth c H locs 0 0 Q (F0 m 0 ls []) := by
  obtain ⟨hx, hb, hr, hml, hown, hts, hlk, hK, hN⟩ := id C
  intro σ x1 H locs ls hw hl hf
  rw [pX10_liked_0] at hf
  refine lv_iload_n hx hb dX10_liked_0 rfl (lv_at hl 1 rfl) ?_
  refine lv_iconst (v := zI (-1)) hx hb dX10_liked_1 rfl ?_
  obtain ⟨hg2, hf⟩ := gd_s hf
  refine zv_icmp_ne (tgt := 9) hx hb ⟨hg2, by decide⟩ dX10_liked_2 (by decide) (fun (c2 : ¬ (x1 = (-1))) => ?_) (fun (c2 : x1 = (-1)) => ?_)
  · rw [if_neg c2] at hf
    refine lv_iconst (v := zI 0) hx hb dX10_liked_9 rfl ?_
    exact wX10_liked_10 C hret σ x1 0 H locs ls hw (lv_sub hl [0, 1] rfl) hf
  · rw [if_pos c2] at hf
    refine lv_iconst (v := zI 1) hx hb dX10_liked_5 rfl ?_
    refine lv_goto (tgt := 10) hx hb dX10_liked_6 (by decide) ?_
    exact wX10_liked_10 C hret σ x1 1 H locs ls hw (lv_sub hl [0, 1] rfl) hf
set_option maxHeartbeats 4000000 in
set_option maxRecDepth 100000 in
theorem tX10_liked {l : Launch} {D : va_G} {A : Nat → Prop} {cI cZ : ClassId} {q : Nat → Nat} {σ : St} {x1 : Int} {r : Int} {τ : St} (hf : pX10_liked σ x1 = some (r, τ)) : Met l yX10_liked wsX10_liked rmX10_liked (va_Pc [.ref (q 0), .int (zI x1)] (CX D (TY cI cZ) A (wE q cI cZ σ))) (QI D (TY cI cZ) A (wE q cI cZ τ) (zI r)) 0 0 A := by
  refine opn (cc := cX10_liked) (maxL := 3) (ret := (some .int)) (by decide) rfl (Nat.le_of_ble_eq_true rfl) (fun p e s m below meth c C ls hw hl => ?_)
  have hl : lv_has ls 3 [(0, .ref (q 0)), (1, .int (zI x1))] := hl
  rw [pX10_liked] at hf
  exact wX10_liked_0 C (rtI C) σ x1 _ _ ls hw (lv_sub hl [0, 1] rfl) hf
abbrev rmX11_likes : Room := { frames := 2, cells := 0, slots := 0, locals := 44 }
set_option maxHeartbeats 4000000 in
set_option maxRecDepth 100000 in
theorem wX11_likes_0 {p : Program} {l : Launch} {e : Env} {s : State} {m : MethodId} {args : Array Value} {below : List Frame} {meth : Method} {c : Code} {D : va_G} {A : Nat → Prop} {q : Nat → Nat} {cI cZ : ClassId} {Q : State → Prop} {σ : St} {r : Int} (C : Cx p s m args meth c D (TY cI cZ) cX11_likes (some .boolean) 3 wsX11_likes RX11) (hret : RtZ p l e rmX11_likes s m args below meth c D A cX11_likes Q (wM q cI cZ σ) (zI r)) :
    ∀ (x1 : Int) (x2 : Int) (H : Heap) (locs : List Loc) (ls : Array Slot), Wd D A s (wM q cI cZ σ) H locs → lv_has ls 3 [(0, .ref (q 0)), (1, .int (zI x1)), (2, .int (zI x2))] → pX11_likes_0 σ x1 x2 = some r → W p l e rmX11_likes s m args below meth c H locs 0 0 Q (F0 m 0 ls []) := by
  obtain ⟨hx, hb, hr, hml, hown, hts, hlk, hK, hN⟩ := id C
  intro x1 x2 H locs ls hw hl hf
  rw [pX11_likes_0] at hf
  refine lv_iload_n hx hb dX11_likes_0 rfl (lv_at hl 2 rfl) ?_
  refine lv_aload_n hx hb dX11_likes_1 rfl (lv_at hl 0 rfl) ?_
  refine va_get (D := D) (ci := 11) (v := .int (zI (σ.1 2))) (C := RX11) (T := TX11) (N := 40) hx hb hts (fun _ h => List.mem_cons_of_mem _ (List.mem_append_right _ h)) hown hK hw.1 0 rfl rfl 2 (by decide) (hts (.fieldLink RX11 93 "EggThronesModel" "eggs" "I") (List.mem_of_getElem? (i := 1) rfl)) (fun _ h9 => h9) rfl dX11_likes_2 ?_
  obtain ⟨hg5, hf⟩ := gd_s hf
  refine zv_icmp_ge (tgt := 48) hx hb hg5 dX11_likes_5 (by decide) (fun (c5 : (σ.1 2) ≤ x2) => ?_) (fun (c5 : ¬ ((σ.1 2) ≤ x2)) => ?_)
  · rw [if_pos c5] at hf
    refine lv_iconst (v := zI 0) hx hb dX11_likes_48 rfl ?_
    cases hf
    exact hret H locs ls 49 dX11_likes_49 (by decide +kernel) hw
  · rw [if_neg c5] at hf
    refine lv_aload_n hx hb dX11_likes_8 rfl (lv_at hl 0 rfl) ?_
    refine va_get (D := D) (ci := 11) (v := .ref (q 6)) (C := RX11) (T := TX11) (N := 40) hx hb hts (fun _ h => List.mem_cons_of_mem _ (List.mem_append_right _ h)) hown hK hw.1 0 rfl rfl 9 (by decide) (hts (.fieldLink RX11 25 "EggThronesModel" "now" "[I") (List.mem_of_getElem? (i := 2) rfl)) (fun _ h9 => h9) rfl dX11_likes_9 ?_
    refine lv_iload_n hx hb dX11_likes_12 rfl (lv_at hl 2 rfl) ?_
    obtain ⟨hi13, hf⟩ := gd_s hf
    refine zv_iald (D := D) hx hb hK hw.1 6 0 rfl rfl hi13 (by decide) dX11_likes_13 ?_
    refine lv_iconst (v := zI 2) hx hb dX11_likes_14 rfl ?_
    obtain ⟨hg15, hf⟩ := gd_s hf
    refine zv_icmp_ne (tgt := 48) hx hb ⟨hg15, by decide⟩ dX11_likes_15 (by decide) (fun (c15 : ¬ ((σ.2 5 (Int.toNat x2)) = 2)) => ?_) (fun (c15 : (σ.2 5 (Int.toNat x2)) = 2) => ?_)
    · rw [if_neg c15] at hf
      refine lv_iconst (v := zI 0) hx hb dX11_likes_48 rfl ?_
      cases hf
      exact hret H locs ls 49 dX11_likes_49 (by decide +kernel) hw
    · rw [if_pos c15] at hf
      refine lv_aload_n hx hb dX11_likes_18 rfl (lv_at hl 0 rfl) ?_
      refine lv_iload_n hx hb dX11_likes_19 rfl (lv_at hl 2 rfl) ?_
      obtain ⟨r20, h20, hf⟩ := bd_s hf
      replace hf := bt_s hf
      refine gVi (As := [.int (zI x2)]) (rest := []) C hw (tX11_hard h20) (cwV 1 hts gX11_likes_X11_hard rfl rfl rfl (by decide +kernel) ⟨Nat.le_of_ble_eq_true rfl, Nat.le_of_ble_eq_true rfl⟩) 11 0 rfl rfl rfl hl.1 rfl (Nat.le_of_ble_eq_true rfl) dX11_likes_20 (fun H locs hw => ?_)
      obtain ⟨hz23, hf⟩ := gd_s hf
      refine zv_i2l hx hb hz23 dX11_likes_23 ?_
      refine lv_aload_n hx hb dX11_likes_24 rfl (lv_at hl 0 rfl) ?_
      refine va_get (D := D) (ci := 11) (v := .ref (q 3)) (C := RX11) (T := TX11) (N := 40) hx hb hts (fun _ h => List.mem_cons_of_mem _ (List.mem_append_right _ h)) hown hK hw.1 0 rfl rfl 6 (by decide) (hts (.fieldLink RX11 16 "EggThronesModel" "likesLeast" "[I") (List.mem_of_getElem? (i := 3) rfl)) (fun _ h9 => h9) rfl dX11_likes_25 ?_
      refine lv_iload_n hx hb dX11_likes_28 rfl (lv_at hl 1 rfl) ?_
      obtain ⟨hi29, hf⟩ := gd_s hf
      refine zv_iald (D := D) hx hb hK hw.1 3 0 rfl rfl hi29 (by decide) dX11_likes_29 ?_
      obtain ⟨hz30, hf⟩ := gd_s hf
      refine zv_i2l hx hb hz30 dX11_likes_30 ?_
      refine lv_aload_n hx hb dX11_likes_31 rfl (lv_at hl 0 rfl) ?_
      refine va_get (D := D) (ci := 11) (v := .ref (q 4)) (C := RX11) (T := TX11) (N := 40) hx hb hts (fun _ h => List.mem_cons_of_mem _ (List.mem_append_right _ h)) hown hK hw.1 0 rfl rfl 7 (by decide) (hts (.fieldLink RX11 19 "EggThronesModel" "likesMost" "[I") (List.mem_of_getElem? (i := 4) rfl)) (fun _ h9 => h9) rfl dX11_likes_32 ?_
      refine lv_iload_n hx hb dX11_likes_35 rfl (lv_at hl 1 rfl) ?_
      obtain ⟨hi36, hf⟩ := gd_s hf
      refine zv_iald (D := D) hx hb hK hw.1 4 0 rfl rfl hi36 (by decide) dX11_likes_36 ?_
      obtain ⟨hz37, hf⟩ := gd_s hf
      refine zv_i2l hx hb hz37 dX11_likes_37 ?_
      obtain ⟨r38, h38, hf⟩ := bd_s hf
      replace hf := bt_s hf
      refine gSi (As := [.long (zL r20), .long (zL (σ.2 2 (Int.toNat x1))), .long (zL (σ.2 3 (Int.toNat x1)))]) (rest := []) C hw (tX11_in h38) (va_cwS 3 hts gX11_likes_X11_in rfl rfl rfl (by decide +kernel) ⟨Nat.le_of_ble_eq_true rfl, Nat.le_of_ble_eq_true rfl⟩) rfl hl.1 rfl (Nat.le_of_ble_eq_true rfl) dX11_likes_38 (fun H locs hw => ?_)
      obtain ⟨hg41, hf⟩ := gd_s hf
      refine zv_if_eq (tgt := 48) hx hb hg41 dX11_likes_41 (by decide) (fun (c41 : r38 = 0) => ?_) (fun (c41 : ¬ (r38 = 0)) => ?_)
      · rw [if_pos c41] at hf
        refine lv_iconst (v := zI 0) hx hb dX11_likes_48 rfl ?_
        cases hf
        exact hret H locs ls 49 dX11_likes_49 (by decide +kernel) hw
      · rw [if_neg c41] at hf
        refine lv_iconst (v := zI 1) hx hb dX11_likes_44 rfl ?_
        refine lv_goto (tgt := 49) hx hb dX11_likes_45 (by decide) ?_
        cases hf
        exact hret H locs ls 49 dX11_likes_49 (by decide +kernel) hw
set_option maxHeartbeats 4000000 in
set_option maxRecDepth 100000 in
theorem tX11_likes {l : Launch} {D : va_G} {A : Nat → Prop} {cI cZ : ClassId} {q : Nat → Nat} {σ : St} {x1 : Int} {x2 : Int} {r : Int} (hf : pX11_likes σ x1 x2 = some r) : Met l yX11_likes wsX11_likes rmX11_likes (va_Pc [.ref (q 0), .int (zI x1), .int (zI x2)] (CX D (TY cI cZ) A (wM q cI cZ σ))) (QI D (TY cI cZ) A (wM q cI cZ σ) (zI r)) 0 0 A := by
  refine opn (cc := cX11_likes) (maxL := 3) (ret := (some .boolean)) (by decide) rfl (Nat.le_of_ble_eq_true rfl) (fun p e s m below meth c C ls hw hl => ?_)
  have hl : lv_has ls 3 [(0, .ref (q 0)), (1, .int (zI x1)), (2, .int (zI x2))] := hl
  rw [pX11_likes] at hf
  exact wX11_likes_0 C (rtZ C) x1 x2 _ _ ls hw (lv_sub hl [0, 1, 2] rfl) hf
abbrev rmX11_giveBy : Room := { frames := 3, cells := 0, slots := 0, locals := 66 }
set_option maxHeartbeats 4000000 in
set_option maxRecDepth 100000 in
theorem wX11_giveBy_95 {p : Program} {l : Launch} {e : Env} {s : State} {m : MethodId} {args : Array Value} {below : List Frame} {meth : Method} {c : Code} {D : va_G} {A : Nat → Prop} {q : Nat → Nat} {cI cZ : ClassId} {Q : State → Prop} {r : Int} {τ : St} (C : Cx p s m args meth c D (TY cI cZ) cX11_giveBy (some .int) 6 wsX11_giveBy RX11) (hret : RtI p l e rmX11_giveBy s m args below meth c D A cX11_giveBy Q (wM q cI cZ τ) (zI r)) (k15 : St → Int → Int → Int → Int → Option (Int × St)) (hk15 : ∀ (σ : St) (x2 : Int) (x3 : Int) (x4 : Int) (x5 : Int) (H : Heap) (locs : List Loc) (ls : Array Slot), Wd D A s (wM q cI cZ σ) H locs → lv_has ls 6 [(0, .ref (q 0)), (2, .int (zI x2)), (3, .int (zI x3)), (4, .int (zI x4)), (5, .int (zI x5))] → k15 σ x2 x3 x4 x5 = some (r, τ) → W p l e rmX11_giveBy s m args below meth c H locs 0 0 Q (F0 m 15 ls [])) :
    ∀ (σ : St) (x2 : Int) (x3 : Int) (x4 : Int) (x5 : Int) (H : Heap) (locs : List Loc) (ls : Array Slot), Wd D A s (wM q cI cZ σ) H locs → lv_has ls 6 [(0, .ref (q 0)), (2, .int (zI x2)), (3, .int (zI x3)), (4, .int (zI x4)), (5, .int (zI x5))] → pX11_giveBy_95 k15 σ x2 x3 x4 x5 = some (r, τ) → W p l e rmX11_giveBy s m args below meth c H locs 0 0 Q (F0 m 95 ls []) := by
  obtain ⟨hx, hb, hr, hml, hown, hts, hlk, hK, hN⟩ := id C
  intro σ x2 x3 x4 x5 H locs ls hw hl hf
  rw [pX11_giveBy_95] at hf
  refine lv_iinc (v := zI (x5 + (-1))) (lv' := [(5, .int (zI (x5 + (-1)))), (0, .ref (q 0)), (2, .int (zI x2)), (3, .int (zI x3)), (4, .int (zI x4))]) hx hb dX11_giveBy_95 hl (k := 4) rfl (zI_add _ _) (by decide) rfl (fun ls hl => ?_)
  refine lv_goto (tgt := 15) hx hb dX11_giveBy_98 (by decide) ?_
  exact hk15 σ x2 x3 x4 (x5 + (-1)) H locs ls hw (lv_sub hl [1, 2, 3, 4, 0] rfl) hf
set_option maxHeartbeats 4000000 in
set_option maxRecDepth 100000 in
theorem wX11_giveBy_15 {p : Program} {l : Launch} {e : Env} {s : State} {m : MethodId} {args : Array Value} {below : List Frame} {meth : Method} {c : Code} {D : va_G} {A : Nat → Prop} {q : Nat → Nat} {cI cZ : ClassId} {Q : State → Prop} {r : Int} {τ : St} (C : Cx p s m args meth c D (TY cI cZ) cX11_giveBy (some .int) 6 wsX11_giveBy RX11) (hret : RtI p l e rmX11_giveBy s m args below meth c D A cX11_giveBy Q (wM q cI cZ τ) (zI r)) :
    ∀ (n : Nat) (σ : St) (x2 : Int) (x3 : Int) (x4 : Int) (x5 : Int) (H : Heap) (locs : List Loc) (ls : Array Slot), Wd D A s (wM q cI cZ σ) H locs → lv_has ls 6 [(0, .ref (q 0)), (2, .int (zI x2)), (3, .int (zI x3)), (4, .int (zI x4)), (5, .int (zI x5))] → pX11_giveBy_15 n σ x2 x3 x4 x5 = some (r, τ) → W p l e rmX11_giveBy s m args below meth c H locs 0 0 Q (F0 m 15 ls []) := by
  obtain ⟨hx, hb, hr, hml, hown, hts, hlk, hK, hN⟩ := id C
  intro n
  induction n with
  | zero =>
    intro σ x2 x3 x4 x5 H locs ls hw hl hf
    exact absurd (show (none : Option (Int × St)) = some (r, τ) from hf) (by simp)
  | succ n ih =>
    intro σ x2 x3 x4 x5 H locs ls hw hl hf
    rw [pX11_giveBy_15] at hf
    refine lv_iload hx hb dX11_giveBy_15 (lv_at hl 4 rfl) ?_
    obtain ⟨hg17, hf⟩ := gd_s hf
    refine zv_if_lt (tgt := 101) hx hb hg17 dX11_giveBy_17 (by decide) (fun (c17 : x5 < 0) => ?_) (fun (c17 : ¬ (x5 < 0)) => ?_)
    · rw [if_pos c17] at hf
      refine lv_iload hx hb dX11_giveBy_101 (lv_at hl 3 rfl) ?_
      cases hf
      exact hret H locs ls 103 dX11_giveBy_103 hw
    · rw [if_neg c17] at hf
      refine lv_aload_n hx hb dX11_giveBy_20 rfl (lv_at hl 0 rfl) ?_
      refine va_get (D := D) (ci := 11) (v := .ref (q 17)) (C := RX11) (T := TX11) (N := 40) hx hb hts (fun _ h => List.mem_cons_of_mem _ (List.mem_append_right _ h)) hown hK hw.1 0 rfl rfl 29 (by decide) (hts (.fieldLink RX11 62 "EggThronesModel" "given" "[I") (List.mem_of_getElem? (i := 2) rfl)) (fun _ h9 => h9) rfl dX11_giveBy_21 ?_
      refine lv_iload hx hb dX11_giveBy_24 (lv_at hl 4 rfl) ?_
      refine lv_iload_n hx hb dX11_giveBy_26 rfl (lv_at hl 1 rfl) ?_
      refine lv_bipush (v := zI 8) hx hb dX11_giveBy_27 (by decide +kernel) ?_
      obtain ⟨hz29, hf⟩ := gd_s hf
      refine zv_irem hx hb hz29 dX11_giveBy_29 ?_
      obtain ⟨hi30, hf⟩ := gd_s hf
      refine zv_iast (D := D) hx hb hK hw.1 hw.2.1 hw.2.2 17 0 rfl rfl hi30 (by decide) dX11_giveBy_30 (fun H locs hP hD hS => ?_)
      have hw : Wd D A s (wM q cI cZ (sA σ 16 (va_up (σ.2 16) (Int.toNat x5) (x2 % 8)))) H locs := wdaM_16 hP hD hS
      obtain ⟨σ30, e30, hf⟩ := nm_s hf
      replace hf := bt_s hf
      rw [← e30] at hw
      refine lv_iload_n hx hb dX11_giveBy_31 rfl (lv_at hl 1 rfl) ?_
      refine lv_bipush (v := zI 8) hx hb dX11_giveBy_32 (by decide +kernel) ?_
      obtain ⟨hz34, hf⟩ := gd_s hf
      refine zv_idiv hx hb hz34 dX11_giveBy_34 ?_
      refine lv_istore_n (lv' := [(2, .int (zI (x2 / 8))), (0, .ref (q 0)), (3, .int (zI x3)), (4, .int (zI x4)), (5, .int (zI x5))]) hx hb dX11_giveBy_35 rfl hl (by decide) rfl (fun ls hl => ?_)
      refine lv_aload_n hx hb dX11_giveBy_36 rfl (lv_at hl 1 rfl) ?_
      refine va_get (D := D) (ci := 11) (v := .ref (q 17)) (C := RX11) (T := TX11) (N := 40) hx hb hts (fun _ h => List.mem_cons_of_mem _ (List.mem_append_right _ h)) hown hK hw.1 0 rfl rfl 29 (by decide) (hts (.fieldLink RX11 62 "EggThronesModel" "given" "[I") (List.mem_of_getElem? (i := 2) rfl)) (fun _ h9 => h9) rfl dX11_giveBy_37 ?_
      refine lv_iload hx hb dX11_giveBy_40 (lv_at hl 4 rfl) ?_
      obtain ⟨hi42, hf⟩ := gd_s hf
      refine zv_iald (D := D) hx hb hK hw.1 17 0 rfl rfl hi42 (by decide) dX11_giveBy_42 ?_
      refine lv_bipush (v := zI 7) hx hb dX11_giveBy_43 (by decide +kernel) ?_
      obtain ⟨hg45, hf⟩ := gd_s hf
      refine zv_icmp_ge (tgt := 95) hx hb ⟨hg45, by decide⟩ dX11_giveBy_45 (by decide) (fun (c45 : 7 ≤ (σ30.2 16 (Int.toNat x5))) => ?_) (fun (c45 : ¬ (7 ≤ (σ30.2 16 (Int.toNat x5)))) => ?_)
      · rw [if_pos c45] at hf
        exact wX11_giveBy_95 C hret _ ih σ30 (x2 / 8) x3 x4 x5 H locs ls hw (lv_sub hl [1, 0, 2, 3, 4] rfl) hf
      · rw [if_neg c45] at hf
        refine lv_aload_n hx hb dX11_giveBy_48 rfl (lv_at hl 1 rfl) ?_
        refine lv_iload hx hb dX11_giveBy_49 (lv_at hl 4 rfl) ?_
        refine lv_aload_n hx hb dX11_giveBy_51 rfl (lv_at hl 1 rfl) ?_
        refine va_get (D := D) (ci := 11) (v := .ref (q 17)) (C := RX11) (T := TX11) (N := 40) hx hb hts (fun _ h => List.mem_cons_of_mem _ (List.mem_append_right _ h)) hown hK hw.1 0 rfl rfl 29 (by decide) (hts (.fieldLink RX11 62 "EggThronesModel" "given" "[I") (List.mem_of_getElem? (i := 2) rfl)) (fun _ h9 => h9) rfl dX11_giveBy_52 ?_
        refine lv_iload hx hb dX11_giveBy_55 (lv_at hl 4 rfl) ?_
        obtain ⟨hi57, hf⟩ := gd_s hf
        refine zv_iald (D := D) hx hb hK hw.1 17 0 rfl rfl hi57 (by decide) dX11_giveBy_57 ?_
        obtain ⟨r58, h58, hf⟩ := bd_s hf
        replace hf := bt_s hf
        refine gVi (As := [.int (zI x5), .int (zI (σ30.2 16 (Int.toNat x5)))]) (rest := []) C hw (tX11_likes h58) (cwV 2 hts gX11_giveBy_X11_likes rfl rfl rfl (by decide +kernel) ⟨Nat.le_of_ble_eq_true rfl, Nat.le_of_ble_eq_true rfl⟩) 11 0 rfl rfl rfl hl.1 rfl (Nat.le_of_ble_eq_true rfl) dX11_giveBy_58 (fun H locs hw => ?_)
        obtain ⟨hg61, hf⟩ := gd_s hf
        refine zv_if_eq (tgt := 78) hx hb hg61 dX11_giveBy_61 (by decide) (fun (c61 : r58 = 0) => ?_) (fun (c61 : ¬ (r58 = 0)) => ?_)
        · rw [if_pos c61] at hf
          refine lv_iconst (v := zI (-1)) hx hb dX11_giveBy_78 rfl ?_
          cases hf
          exact hret H locs ls 79 dX11_giveBy_79 hw
        · rw [if_neg c61] at hf
          refine lv_iload_n hx hb dX11_giveBy_64 rfl (lv_at hl 2 rfl) ?_
          refine lv_aload_n hx hb dX11_giveBy_65 rfl (lv_at hl 1 rfl) ?_
          refine va_get (D := D) (ci := 11) (v := .ref (q 17)) (C := RX11) (T := TX11) (N := 40) hx hb hts (fun _ h => List.mem_cons_of_mem _ (List.mem_append_right _ h)) hown hK hw.1 0 rfl rfl 29 (by decide) (hts (.fieldLink RX11 62 "EggThronesModel" "given" "[I") (List.mem_of_getElem? (i := 2) rfl)) (fun _ h9 => h9) rfl dX11_giveBy_66 ?_
          refine lv_iload hx hb dX11_giveBy_69 (lv_at hl 4 rfl) ?_
          obtain ⟨hi71, hf⟩ := gd_s hf
          refine zv_iald (D := D) hx hb hK hw.1 17 0 rfl rfl hi71 (by decide) dX11_giveBy_71 ?_
          obtain ⟨r72, h72, hf⟩ := bd_s hf
          replace hf := bt_s hf
          refine gSi (As := [.int (zI x3), .int (zI (σ30.2 16 (Int.toNat x5)))]) (rest := []) C hw (tX11_has h72) (va_cwS 2 hts gX11_giveBy_X11_has rfl rfl rfl (by decide +kernel) ⟨Nat.le_of_ble_eq_true rfl, Nat.le_of_ble_eq_true rfl⟩) rfl hl.1 rfl (Nat.le_of_ble_eq_true rfl) dX11_giveBy_72 (fun H locs hw => ?_)
          obtain ⟨hg75, hf⟩ := gd_s hf
          refine zv_if_eq (tgt := 80) hx hb hg75 dX11_giveBy_75 (by decide) (fun (c75 : r72 = 0) => ?_) (fun (c75 : ¬ (r72 = 0)) => ?_)
          · rw [if_pos c75] at hf
            refine lv_iload_n hx hb dX11_giveBy_80 rfl (lv_at hl 2 rfl) ?_
            refine lv_iconst (v := zI 1) hx hb dX11_giveBy_81 rfl ?_
            refine lv_aload_n hx hb dX11_giveBy_82 rfl (lv_at hl 1 rfl) ?_
            refine va_get (D := D) (ci := 11) (v := .ref (q 17)) (C := RX11) (T := TX11) (N := 40) hx hb hts (fun _ h => List.mem_cons_of_mem _ (List.mem_append_right _ h)) hown hK hw.1 0 rfl rfl 29 (by decide) (hts (.fieldLink RX11 62 "EggThronesModel" "given" "[I") (List.mem_of_getElem? (i := 2) rfl)) (fun _ h9 => h9) rfl dX11_giveBy_83 ?_
            refine lv_iload hx hb dX11_giveBy_86 (lv_at hl 4 rfl) ?_
            obtain ⟨hi88, hf⟩ := gd_s hf
            refine zv_iald (D := D) hx hb hK hw.1 17 0 rfl rfl hi88 (by decide) dX11_giveBy_88 ?_
            refine zv_ishl hx hb dX11_giveBy_89 ?_
            refine zv_ior hx hb dX11_giveBy_90 ?_
            refine lv_istore_n (lv' := [(3, .int (zI (zOr x3 (zShl 1 (σ30.2 16 (Int.toNat x5)))))), (2, .int (zI (x2 / 8))), (0, .ref (q 0)), (4, .int (zI x4)), (5, .int (zI x5))]) hx hb dX11_giveBy_91 rfl hl (by decide) rfl (fun ls hl => ?_)
            refine lv_iinc (v := zI (x4 + 1)) (lv' := [(4, .int (zI (x4 + 1))), (3, .int (zI (zOr x3 (zShl 1 (σ30.2 16 (Int.toNat x5)))))), (2, .int (zI (x2 / 8))), (0, .ref (q 0)), (5, .int (zI x5))]) hx hb dX11_giveBy_92 hl (k := 3) rfl (zI_add _ _) (by decide) rfl (fun ls hl => ?_)
            exact wX11_giveBy_95 C hret _ ih σ30 (x2 / 8) (zOr x3 (zShl 1 (σ30.2 16 (Int.toNat x5)))) (x4 + 1) x5 H locs ls hw (lv_sub hl [3, 2, 1, 0, 4] rfl) hf
          · rw [if_neg c75] at hf
            refine lv_iconst (v := zI (-1)) hx hb dX11_giveBy_78 rfl ?_
            cases hf
            exact hret H locs ls 79 dX11_giveBy_79 hw
set_option maxHeartbeats 4000000 in
set_option maxRecDepth 100000 in
theorem wX11_giveBy_0 {p : Program} {l : Launch} {e : Env} {s : State} {m : MethodId} {args : Array Value} {below : List Frame} {meth : Method} {c : Code} {D : va_G} {A : Nat → Prop} {q : Nat → Nat} {cI cZ : ClassId} {Q : State → Prop} {r : Int} {τ : St} (C : Cx p s m args meth c D (TY cI cZ) cX11_giveBy (some .int) 6 wsX11_giveBy RX11) (hret : RtI p l e rmX11_giveBy s m args below meth c D A cX11_giveBy Q (wM q cI cZ τ) (zI r)) :
    ∀ (σ : St) (x1 : Int) (H : Heap) (locs : List Loc) (ls : Array Slot), Wd D A s (wM q cI cZ σ) H locs → lv_has ls 6 [(0, .ref (q 0)), (1, .int (zI x1))] → pX11_giveBy_0 σ x1 = some (r, τ) → W p l e rmX11_giveBy s m args below meth c H locs 0 0 Q (F0 m 0 ls []) := by
  obtain ⟨hx, hb, hr, hml, hown, hts, hlk, hK, hN⟩ := id C
  intro σ x1 H locs ls hw hl hf
  rw [pX11_giveBy_0] at hf
  refine lv_iload_n hx hb dX11_giveBy_0 rfl (lv_at hl 1 rfl) ?_
  refine lv_istore_n (lv' := [(2, .int (zI x1)), (0, .ref (q 0)), (1, .int (zI x1))]) hx hb dX11_giveBy_1 rfl hl (by decide) rfl (fun ls hl => ?_)
  refine lv_iconst (v := zI 0) hx hb dX11_giveBy_2 rfl ?_
  refine lv_istore_n (lv' := [(3, .int (zI 0)), (2, .int (zI x1)), (0, .ref (q 0)), (1, .int (zI x1))]) hx hb dX11_giveBy_3 rfl hl (by decide) rfl (fun ls hl => ?_)
  refine lv_iconst (v := zI 0) hx hb dX11_giveBy_4 rfl ?_
  refine lv_istore (lv' := [(4, .int (zI 0)), (3, .int (zI 0)), (2, .int (zI x1)), (0, .ref (q 0)), (1, .int (zI x1))]) hx hb dX11_giveBy_5 hl (by decide) rfl (fun ls hl => ?_)
  refine lv_aload_n hx hb dX11_giveBy_7 rfl (lv_at hl 3 rfl) ?_
  refine va_get (D := D) (ci := 11) (v := .int (zI (σ.1 3))) (C := RX11) (T := TX11) (N := 40) hx hb hts (fun _ h => List.mem_cons_of_mem _ (List.mem_append_right _ h)) hown hK hw.1 0 rfl rfl 5 (by decide) (hts (.fieldLink RX11 100 "EggThronesModel" "eaters" "I") (List.mem_of_getElem? (i := 1) rfl)) (fun _ h9 => h9) rfl dX11_giveBy_8 ?_
  refine lv_iconst (v := zI 1) hx hb dX11_giveBy_11 rfl ?_
  refine zv_isub hx hb dX11_giveBy_12 ?_
  refine lv_istore (lv' := [(5, .int (zI ((σ.1 3) - 1))), (4, .int (zI 0)), (3, .int (zI 0)), (2, .int (zI x1)), (0, .ref (q 0)), (1, .int (zI x1))]) hx hb dX11_giveBy_13 hl (by decide) rfl (fun ls hl => ?_)
  exact wX11_giveBy_15 C hret FU σ x1 0 0 ((σ.1 3) - 1) H locs ls hw (lv_sub hl [4, 3, 2, 1, 0] rfl) hf
set_option maxHeartbeats 4000000 in
set_option maxRecDepth 100000 in
theorem tX11_giveBy {l : Launch} {D : va_G} {A : Nat → Prop} {cI cZ : ClassId} {q : Nat → Nat} {σ : St} {x1 : Int} {r : Int} {τ : St} (hf : pX11_giveBy σ x1 = some (r, τ)) : Met l yX11_giveBy wsX11_giveBy rmX11_giveBy (va_Pc [.ref (q 0), .int (zI x1)] (CX D (TY cI cZ) A (wM q cI cZ σ))) (QI D (TY cI cZ) A (wM q cI cZ τ) (zI r)) 0 0 A := by
  refine opn (cc := cX11_giveBy) (maxL := 6) (ret := (some .int)) (by decide) rfl (Nat.le_of_ble_eq_true rfl) (fun p e s m below meth c C ls hw hl => ?_)
  have hl : lv_has ls 6 [(0, .ref (q 0)), (1, .int (zI x1))] := hl
  rw [pX11_giveBy] at hf
  exact wX11_giveBy_0 C (rtI C) σ x1 _ _ ls hw (lv_sub hl [0, 1] rfl) hf
abbrev rmX11_liked : Room := { frames := 4, cells := 0, slots := 0, locals := 91 }
set_option maxHeartbeats 4000000 in
set_option maxRecDepth 100000 in
theorem wX11_liked_99 {p : Program} {l : Launch} {e : Env} {s : State} {m : MethodId} {args : Array Value} {below : List Frame} {meth : Method} {c : Code} {D : va_G} {A : Nat → Prop} {q : Nat → Nat} {cI cZ : ClassId} {Q : State → Prop} {r : Int} {τ : St} (C : Cx p s m args meth c D (TY cI cZ) cX11_liked (some .int) 7 wsX11_liked RX11) (hret : RtI p l e rmX11_liked s m args below meth c D A cX11_liked Q (wM q cI cZ τ) (zI r)) (k44 : St → Int → Int → Int → Int → Option (Int × St)) (hk44 : ∀ (σ : St) (x1 : Int) (x2 : Int) (x3 : Int) (x4 : Int) (H : Heap) (locs : List Loc) (ls : Array Slot), Wd D A s (wM q cI cZ σ) H locs → lv_has ls 7 [(0, .ref (q 0)), (1, .int (zI x1)), (2, .int (zI x2)), (3, .int (zI x3)), (4, .int (zI x4))] → k44 σ x1 x2 x3 x4 = some (r, τ) → W p l e rmX11_liked s m args below meth c H locs 0 0 Q (F0 m 44 ls [])) :
    ∀ (σ : St) (x1 : Int) (x2 : Int) (x3 : Int) (x4 : Int) (H : Heap) (locs : List Loc) (ls : Array Slot), Wd D A s (wM q cI cZ σ) H locs → lv_has ls 7 [(0, .ref (q 0)), (1, .int (zI x1)), (2, .int (zI x2)), (3, .int (zI x3)), (4, .int (zI x4))] → pX11_liked_99 k44 σ x1 x2 x3 x4 = some (r, τ) → W p l e rmX11_liked s m args below meth c H locs 0 0 Q (F0 m 99 ls []) := by
  obtain ⟨hx, hb, hr, hml, hown, hts, hlk, hK, hN⟩ := id C
  intro σ x1 x2 x3 x4 H locs ls hw hl hf
  rw [pX11_liked_99] at hf
  refine lv_iinc (v := zI (x4 + 1)) (lv' := [(4, .int (zI (x4 + 1))), (0, .ref (q 0)), (1, .int (zI x1)), (2, .int (zI x2)), (3, .int (zI x3))]) hx hb dX11_liked_99 hl (k := 4) rfl (zI_add _ _) (by decide) rfl (fun ls hl => ?_)
  refine lv_goto (tgt := 44) hx hb dX11_liked_102 (by decide) ?_
  exact hk44 σ x1 x2 x3 (x4 + 1) H locs ls hw (lv_sub hl [1, 2, 3, 4, 0] rfl) hf
set_option maxHeartbeats 4000000 in
set_option maxRecDepth 100000 in
theorem wX11_liked_70 {p : Program} {l : Launch} {e : Env} {s : State} {m : MethodId} {args : Array Value} {below : List Frame} {meth : Method} {c : Code} {D : va_G} {A : Nat → Prop} {q : Nat → Nat} {cI cZ : ClassId} {Q : State → Prop} {r : Int} {τ : St} (C : Cx p s m args meth c D (TY cI cZ) cX11_liked (some .int) 7 wsX11_liked RX11) (hret : RtI p l e rmX11_liked s m args below meth c D A cX11_liked Q (wM q cI cZ τ) (zI r)) (k44 : St → Int → Int → Int → Int → Option (Int × St)) (hk44 : ∀ (σ : St) (x1 : Int) (x2 : Int) (x3 : Int) (x4 : Int) (H : Heap) (locs : List Loc) (ls : Array Slot), Wd D A s (wM q cI cZ σ) H locs → lv_has ls 7 [(0, .ref (q 0)), (1, .int (zI x1)), (2, .int (zI x2)), (3, .int (zI x3)), (4, .int (zI x4))] → k44 σ x1 x2 x3 x4 = some (r, τ) → W p l e rmX11_liked s m args below meth c H locs 0 0 Q (F0 m 44 ls [])) :
    ∀ (n : Nat) (σ : St) (x1 : Int) (x2 : Int) (x3 : Int) (x4 : Int) (x6 : Int) (H : Heap) (locs : List Loc) (ls : Array Slot), Wd D A s (wM q cI cZ σ) H locs → lv_has ls 7 [(0, .ref (q 0)), (1, .int (zI x1)), (2, .int (zI x2)), (3, .int (zI x3)), (4, .int (zI x4)), (6, .int (zI x6))] → pX11_liked_70 k44 n σ x1 x2 x3 x4 x6 = some (r, τ) → W p l e rmX11_liked s m args below meth c H locs 0 0 Q (F0 m 70 ls []) := by
  obtain ⟨hx, hb, hr, hml, hown, hts, hlk, hK, hN⟩ := id C
  intro n
  induction n with
  | zero =>
    intro σ x1 x2 x3 x4 x6 H locs ls hw hl hf
    exact absurd (show (none : Option (Int × St)) = some (r, τ) from hf) (by simp)
  | succ n ih =>
    intro σ x1 x2 x3 x4 x6 H locs ls hw hl hf
    rw [pX11_liked_70] at hf
    refine lv_iload hx hb dX11_liked_70 (lv_at hl 5 rfl) ?_
    refine lv_aload_n hx hb dX11_liked_72 rfl (lv_at hl 0 rfl) ?_
    refine va_get (D := D) (ci := 11) (v := .int (zI (σ.1 3))) (C := RX11) (T := TX11) (N := 40) hx hb hts (fun _ h => List.mem_cons_of_mem _ (List.mem_append_right _ h)) hown hK hw.1 0 rfl rfl 5 (by decide) (hts (.fieldLink RX11 100 "EggThronesModel" "eaters" "I") (List.mem_of_getElem? (i := 2) rfl)) (fun _ h9 => h9) rfl dX11_liked_73 ?_
    obtain ⟨hg76, hf⟩ := gd_s hf
    refine zv_icmp_ge (tgt := 99) hx hb hg76 dX11_liked_76 (by decide) (fun (c76 : (σ.1 3) ≤ x6) => ?_) (fun (c76 : ¬ ((σ.1 3) ≤ x6)) => ?_)
    · rw [if_pos c76] at hf
      exact wX11_liked_99 C hret _ hk44 σ x1 x2 x3 x4 H locs ls hw (lv_sub hl [0, 1, 2, 3, 4] rfl) hf
    · rw [if_neg c76] at hf
      refine lv_aload_n hx hb dX11_liked_79 rfl (lv_at hl 0 rfl) ?_
      refine va_get (D := D) (ci := 11) (v := .ref (q 18)) (C := RX11) (T := TX11) (N := 40) hx hb hts (fun _ h => List.mem_cons_of_mem _ (List.mem_append_right _ h)) hown hK hw.1 0 rfl rfl 30 (by decide) (hts (.fieldLink RX11 65 "EggThronesModel" "bestGiven" "[I") (List.mem_of_getElem? (i := 3) rfl)) (fun _ h9 => h9) rfl dX11_liked_80 ?_
      refine lv_iload hx hb dX11_liked_83 (lv_at hl 5 rfl) ?_
      refine lv_aload_n hx hb dX11_liked_85 rfl (lv_at hl 0 rfl) ?_
      refine va_get (D := D) (ci := 11) (v := .ref (q 17)) (C := RX11) (T := TX11) (N := 40) hx hb hts (fun _ h => List.mem_cons_of_mem _ (List.mem_append_right _ h)) hown hK hw.1 0 rfl rfl 29 (by decide) (hts (.fieldLink RX11 62 "EggThronesModel" "given" "[I") (List.mem_of_getElem? (i := 4) rfl)) (fun _ h9 => h9) rfl dX11_liked_86 ?_
      refine lv_iload hx hb dX11_liked_89 (lv_at hl 5 rfl) ?_
      obtain ⟨hi91, hf⟩ := gd_s hf
      refine zv_iald (D := D) hx hb hK hw.1 17 0 rfl rfl hi91 (by decide) dX11_liked_91 ?_
      obtain ⟨hi92, hf⟩ := gd_s hf
      refine zv_iast (D := D) hx hb hK hw.1 hw.2.1 hw.2.2 18 0 rfl rfl hi92 (by decide) dX11_liked_92 (fun H locs hP hD hS => ?_)
      have hw : Wd D A s (wM q cI cZ (sA σ 17 (va_up (σ.2 17) (Int.toNat x6) (σ.2 16 (Int.toNat x6))))) H locs := wdaM_17 hP hD hS
      obtain ⟨σ92, e92, hf⟩ := nm_s hf
      replace hf := bt_s hf
      rw [← e92] at hw
      refine lv_iinc (v := zI (x6 + 1)) (lv' := [(6, .int (zI (x6 + 1))), (0, .ref (q 0)), (1, .int (zI x1)), (2, .int (zI x2)), (3, .int (zI x3)), (4, .int (zI x4))]) hx hb dX11_liked_93 hl (k := 5) rfl (zI_add _ _) (by decide) rfl (fun ls hl => ?_)
      refine lv_goto (tgt := 70) hx hb dX11_liked_96 (by decide) ?_
      exact ih σ92 x1 x2 x3 x4 (x6 + 1) H locs ls hw (lv_sub hl [1, 2, 3, 4, 5, 0] rfl) hf
set_option maxHeartbeats 4000000 in
set_option maxRecDepth 100000 in
theorem wX11_liked_44 {p : Program} {l : Launch} {e : Env} {s : State} {m : MethodId} {args : Array Value} {below : List Frame} {meth : Method} {c : Code} {D : va_G} {A : Nat → Prop} {q : Nat → Nat} {cI cZ : ClassId} {Q : State → Prop} {r : Int} {τ : St} (C : Cx p s m args meth c D (TY cI cZ) cX11_liked (some .int) 7 wsX11_liked RX11) (hret : RtI p l e rmX11_liked s m args below meth c D A cX11_liked Q (wM q cI cZ τ) (zI r)) :
    ∀ (n : Nat) (σ : St) (x1 : Int) (x2 : Int) (x3 : Int) (x4 : Int) (H : Heap) (locs : List Loc) (ls : Array Slot), Wd D A s (wM q cI cZ σ) H locs → lv_has ls 7 [(0, .ref (q 0)), (1, .int (zI x1)), (2, .int (zI x2)), (3, .int (zI x3)), (4, .int (zI x4))] → pX11_liked_44 n σ x1 x2 x3 x4 = some (r, τ) → W p l e rmX11_liked s m args below meth c H locs 0 0 Q (F0 m 44 ls []) := by
  obtain ⟨hx, hb, hr, hml, hown, hts, hlk, hK, hN⟩ := id C
  intro n
  induction n with
  | zero =>
    intro σ x1 x2 x3 x4 H locs ls hw hl hf
    exact absurd (show (none : Option (Int × St)) = some (r, τ) from hf) (by simp)
  | succ n ih =>
    intro σ x1 x2 x3 x4 H locs ls hw hl hf
    rw [pX11_liked_44] at hf
    refine lv_iload hx hb dX11_liked_44 (lv_at hl 4 rfl) ?_
    refine lv_iload_n hx hb dX11_liked_46 rfl (lv_at hl 2 rfl) ?_
    obtain ⟨hg47, hf⟩ := gd_s hf
    refine zv_icmp_ge (tgt := 105) hx hb hg47 dX11_liked_47 (by decide) (fun (c47 : x2 ≤ x4) => ?_) (fun (c47 : ¬ (x2 ≤ x4)) => ?_)
    · rw [if_pos c47] at hf
      refine lv_iload_n hx hb dX11_liked_105 rfl (lv_at hl 1 rfl) ?_
      refine lv_iconst (v := zI (-1)) hx hb dX11_liked_106 rfl ?_
      obtain ⟨hg107, hf⟩ := gd_s hf
      refine zv_icmp_ne (tgt := 114) hx hb ⟨hg107, by decide⟩ dX11_liked_107 (by decide) (fun (c107 : ¬ (x1 = (-1))) => ?_) (fun (c107 : x1 = (-1)) => ?_)
      · rw [if_neg c107] at hf
        refine lv_aload_n hx hb dX11_liked_114 rfl (lv_at hl 0 rfl) ?_
        refine va_get (D := D) (ci := 11) (v := .ref (q 18)) (C := RX11) (T := TX11) (N := 40) hx hb hts (fun _ h => List.mem_cons_of_mem _ (List.mem_append_right _ h)) hown hK hw.1 0 rfl rfl 30 (by decide) (hts (.fieldLink RX11 65 "EggThronesModel" "bestGiven" "[I") (List.mem_of_getElem? (i := 3) rfl)) (fun _ h9 => h9) rfl dX11_liked_115 ?_
        refine lv_iload_n hx hb dX11_liked_118 rfl (lv_at hl 1 rfl) ?_
        obtain ⟨hi119, hf⟩ := gd_s hf
        refine zv_iald (D := D) hx hb hK hw.1 18 0 rfl rfl hi119 (by decide) dX11_liked_119 ?_
        refine lv_bipush (v := zI 7) hx hb dX11_liked_120 (by decide +kernel) ?_
        obtain ⟨hg122, hf⟩ := gd_s hf
        refine zv_icmp_ne (tgt := 129) hx hb ⟨hg122, by decide⟩ dX11_liked_122 (by decide) (fun (c122 : ¬ ((σ.2 17 (Int.toNat x1)) = 7)) => ?_) (fun (c122 : (σ.2 17 (Int.toNat x1)) = 7) => ?_)
        · rw [if_neg c122] at hf
          refine lv_aload_n hx hb dX11_liked_129 rfl (lv_at hl 0 rfl) ?_
          refine va_get (D := D) (ci := 11) (v := .ref (q 18)) (C := RX11) (T := TX11) (N := 40) hx hb hts (fun _ h => List.mem_cons_of_mem _ (List.mem_append_right _ h)) hown hK hw.1 0 rfl rfl 30 (by decide) (hts (.fieldLink RX11 65 "EggThronesModel" "bestGiven" "[I") (List.mem_of_getElem? (i := 3) rfl)) (fun _ h9 => h9) rfl dX11_liked_130 ?_
          refine lv_iload_n hx hb dX11_liked_133 rfl (lv_at hl 1 rfl) ?_
          obtain ⟨hi134, hf⟩ := gd_s hf
          refine zv_iald (D := D) hx hb hK hw.1 18 0 rfl rfl hi134 (by decide) dX11_liked_134 ?_
          cases hf
          exact hret H locs ls 135 dX11_liked_135 hw
        · rw [if_pos c122] at hf
          refine lv_iconst (v := zI (-1)) hx hb dX11_liked_125 rfl ?_
          refine lv_goto (tgt := 135) hx hb dX11_liked_126 (by decide) ?_
          cases hf
          exact hret H locs ls 135 dX11_liked_135 hw
      · rw [if_pos c107] at hf
        refine lv_iload_n hx hb dX11_liked_110 rfl (lv_at hl 3 rfl) ?_
        refine lv_goto (tgt := 135) hx hb dX11_liked_111 (by decide) ?_
        cases hf
        exact hret H locs ls 135 dX11_liked_135 hw
    · rw [if_neg c47] at hf
      refine lv_aload_n hx hb dX11_liked_50 rfl (lv_at hl 0 rfl) ?_
      refine lv_iload hx hb dX11_liked_51 (lv_at hl 4 rfl) ?_
      obtain ⟨⟨r53, σ53⟩, h53, hf⟩ := bd_s hf
      have hf := hf2_s hf
      refine gVi (As := [.int (zI x4)]) (rest := []) C hw (tX11_giveBy h53) (cwV 1 hts gX11_liked_X11_giveBy rfl rfl rfl (by decide +kernel) ⟨Nat.le_of_ble_eq_true rfl, Nat.le_of_ble_eq_true rfl⟩) 11 0 rfl rfl rfl hl.1 rfl (Nat.le_of_ble_eq_true rfl) dX11_liked_53 (fun H locs hw => ?_)
      refine lv_istore (lv' := [(5, .int (zI r53)), (0, .ref (q 0)), (1, .int (zI x1)), (2, .int (zI x2)), (3, .int (zI x3)), (4, .int (zI x4))]) hx hb dX11_liked_56 hl (by decide) rfl (fun ls hl => ?_)
      refine lv_iload hx hb dX11_liked_58 (lv_at hl 0 rfl) ?_
      refine lv_iload_n hx hb dX11_liked_60 rfl (lv_at hl 4 rfl) ?_
      obtain ⟨hg61, hf⟩ := gd_s hf
      refine zv_icmp_le (tgt := 99) hx hb hg61 dX11_liked_61 (by decide) (fun (c61 : r53 ≤ x3) => ?_) (fun (c61 : ¬ (r53 ≤ x3)) => ?_)
      · rw [if_pos c61] at hf
        exact wX11_liked_99 C hret _ ih σ53 x1 x2 x3 x4 H locs ls hw (lv_sub hl [1, 2, 3, 4, 5] rfl) hf
      · rw [if_neg c61] at hf
        refine lv_iload hx hb dX11_liked_64 (lv_at hl 0 rfl) ?_
        refine lv_istore_n (lv' := [(3, .int (zI r53)), (5, .int (zI r53)), (0, .ref (q 0)), (1, .int (zI x1)), (2, .int (zI x2)), (4, .int (zI x4))]) hx hb dX11_liked_66 rfl hl (by decide) rfl (fun ls hl => ?_)
        refine lv_iconst (v := zI 0) hx hb dX11_liked_67 rfl ?_
        refine lv_istore (lv' := [(6, .int (zI 0)), (3, .int (zI r53)), (5, .int (zI r53)), (0, .ref (q 0)), (1, .int (zI x1)), (2, .int (zI x2)), (4, .int (zI x4))]) hx hb dX11_liked_68 hl (by decide) rfl (fun ls hl => ?_)
        exact wX11_liked_70 C hret _ ih FU σ53 x1 x2 r53 x4 0 H locs ls hw (lv_sub hl [3, 4, 5, 1, 6, 0] rfl) hf
set_option maxHeartbeats 4000000 in
set_option maxRecDepth 100000 in
theorem wX11_liked_20 {p : Program} {l : Launch} {e : Env} {s : State} {m : MethodId} {args : Array Value} {below : List Frame} {meth : Method} {c : Code} {D : va_G} {A : Nat → Prop} {q : Nat → Nat} {cI cZ : ClassId} {Q : State → Prop} {r : Int} {τ : St} (C : Cx p s m args meth c D (TY cI cZ) cX11_liked (some .int) 7 wsX11_liked RX11) (hret : RtI p l e rmX11_liked s m args below meth c D A cX11_liked Q (wM q cI cZ τ) (zI r)) :
    ∀ (n : Nat) (σ : St) (x1 : Int) (x2 : Int) (x3 : Int) (H : Heap) (locs : List Loc) (ls : Array Slot), Wd D A s (wM q cI cZ σ) H locs → lv_has ls 7 [(0, .ref (q 0)), (1, .int (zI x1)), (2, .int (zI x2)), (3, .int (zI x3))] → pX11_liked_20 n σ x1 x2 x3 = some (r, τ) → W p l e rmX11_liked s m args below meth c H locs 0 0 Q (F0 m 20 ls []) := by
  obtain ⟨hx, hb, hr, hml, hown, hts, hlk, hK, hN⟩ := id C
  intro n
  induction n with
  | zero =>
    intro σ x1 x2 x3 H locs ls hw hl hf
    exact absurd (show (none : Option (Int × St)) = some (r, τ) from hf) (by simp)
  | succ n ih =>
    intro σ x1 x2 x3 H locs ls hw hl hf
    rw [pX11_liked_20] at hf
    refine lv_iload_n hx hb dX11_liked_20 rfl (lv_at hl 3 rfl) ?_
    refine lv_aload_n hx hb dX11_liked_21 rfl (lv_at hl 0 rfl) ?_
    refine va_get (D := D) (ci := 11) (v := .int (zI (σ.1 3))) (C := RX11) (T := TX11) (N := 40) hx hb hts (fun _ h => List.mem_cons_of_mem _ (List.mem_append_right _ h)) hown hK hw.1 0 rfl rfl 5 (by decide) (hts (.fieldLink RX11 100 "EggThronesModel" "eaters" "I") (List.mem_of_getElem? (i := 2) rfl)) (fun _ h9 => h9) rfl dX11_liked_22 ?_
    obtain ⟨hg25, hf⟩ := gd_s hf
    refine zv_icmp_ge (tgt := 39) hx hb hg25 dX11_liked_25 (by decide) (fun (c25 : (σ.1 3) ≤ x3) => ?_) (fun (c25 : ¬ ((σ.1 3) ≤ x3)) => ?_)
    · rw [if_pos c25] at hf
      refine lv_iconst (v := zI (-1)) hx hb dX11_liked_39 rfl ?_
      refine lv_istore_n (lv' := [(3, .int (zI (-1))), (0, .ref (q 0)), (1, .int (zI x1)), (2, .int (zI x2))]) hx hb dX11_liked_40 rfl hl (by decide) rfl (fun ls hl => ?_)
      refine lv_iconst (v := zI 0) hx hb dX11_liked_41 rfl ?_
      refine lv_istore (lv' := [(4, .int (zI 0)), (3, .int (zI (-1))), (0, .ref (q 0)), (1, .int (zI x1)), (2, .int (zI x2))]) hx hb dX11_liked_42 hl (by decide) rfl (fun ls hl => ?_)
      exact wX11_liked_44 C hret FU σ x1 x2 (-1) 0 H locs ls hw (lv_sub hl [2, 3, 4, 1, 0] rfl) hf
    · rw [if_neg c25] at hf
      refine lv_iload_n hx hb dX11_liked_28 rfl (lv_at hl 2 rfl) ?_
      refine lv_bipush (v := zI 8) hx hb dX11_liked_29 (by decide +kernel) ?_
      refine zv_imul hx hb dX11_liked_31 ?_
      refine lv_istore_n (lv' := [(2, .int (zI (x2 * 8))), (0, .ref (q 0)), (1, .int (zI x1)), (3, .int (zI x3))]) hx hb dX11_liked_32 rfl hl (by decide) rfl (fun ls hl => ?_)
      refine lv_iinc (v := zI (x3 + 1)) (lv' := [(3, .int (zI (x3 + 1))), (2, .int (zI (x2 * 8))), (0, .ref (q 0)), (1, .int (zI x1))]) hx hb dX11_liked_33 hl (k := 3) rfl (zI_add _ _) (by decide) rfl (fun ls hl => ?_)
      refine lv_goto (tgt := 20) hx hb dX11_liked_36 (by decide) ?_
      exact ih σ x1 (x2 * 8) (x3 + 1) H locs ls hw (lv_sub hl [2, 3, 1, 0] rfl) hf
set_option maxHeartbeats 4000000 in
set_option maxRecDepth 100000 in
theorem wX11_liked_16 {p : Program} {l : Launch} {e : Env} {s : State} {m : MethodId} {args : Array Value} {below : List Frame} {meth : Method} {c : Code} {D : va_G} {A : Nat → Prop} {q : Nat → Nat} {cI cZ : ClassId} {Q : State → Prop} {r : Int} {τ : St} (C : Cx p s m args meth c D (TY cI cZ) cX11_liked (some .int) 7 wsX11_liked RX11) (hret : RtI p l e rmX11_liked s m args below meth c D A cX11_liked Q (wM q cI cZ τ) (zI r)) :
    ∀ (σ : St) (x1 : Int) (H : Heap) (locs : List Loc) (ls : Array Slot), Wd D A s (wM q cI cZ σ) H locs → lv_has ls 7 [(0, .ref (q 0)), (1, .int (zI x1))] → pX11_liked_16 σ x1 = some (r, τ) → W p l e rmX11_liked s m args below meth c H locs 0 0 Q (F0 m 16 ls []) := by
  obtain ⟨hx, hb, hr, hml, hown, hts, hlk, hK, hN⟩ := id C
  intro σ x1 H locs ls hw hl hf
  rw [pX11_liked_16] at hf
  refine lv_iconst (v := zI 1) hx hb dX11_liked_16 rfl ?_
  refine lv_istore_n (lv' := [(2, .int (zI 1)), (0, .ref (q 0)), (1, .int (zI x1))]) hx hb dX11_liked_17 rfl hl (by decide) rfl (fun ls hl => ?_)
  refine lv_iconst (v := zI 0) hx hb dX11_liked_18 rfl ?_
  refine lv_istore_n (lv' := [(3, .int (zI 0)), (2, .int (zI 1)), (0, .ref (q 0)), (1, .int (zI x1))]) hx hb dX11_liked_19 rfl hl (by decide) rfl (fun ls hl => ?_)
  exact wX11_liked_20 C hret FU σ x1 1 0 H locs ls hw (lv_sub hl [2, 3, 1, 0] rfl) hf
set_option maxHeartbeats 4000000 in
set_option maxRecDepth 100000 in
theorem wX11_liked_0 {p : Program} {l : Launch} {e : Env} {s : State} {m : MethodId} {args : Array Value} {below : List Frame} {meth : Method} {c : Code} {D : va_G} {A : Nat → Prop} {q : Nat → Nat} {cI cZ : ClassId} {Q : State → Prop} {r : Int} {τ : St} (C : Cx p s m args meth c D (TY cI cZ) cX11_liked (some .int) 7 wsX11_liked RX11) (hret : RtI p l e rmX11_liked s m args below meth c D A cX11_liked Q (wM q cI cZ τ) (zI r)) :
    ∀ (σ : St) (x1 : Int) (H : Heap) (locs : List Loc) (ls : Array Slot), Wd D A s (wM q cI cZ σ) H locs → lv_has ls 7 [(0, .ref (q 0)), (1, .int (zI x1))] → pX11_liked_0 σ x1 = some (r, τ) → W p l e rmX11_liked s m args below meth c H locs 0 0 Q (F0 m 0 ls []) := by
  obtain ⟨hx, hb, hr, hml, hown, hts, hlk, hK, hN⟩ := id C
  intro σ x1 H locs ls hw hl hf
  rw [pX11_liked_0] at hf
  refine lv_iload_n hx hb dX11_liked_0 rfl (lv_at hl 1 rfl) ?_
  refine lv_iconst (v := zI (-1)) hx hb dX11_liked_1 rfl ?_
  obtain ⟨hg2, hf⟩ := gd_s hf
  refine zv_icmp_eq (tgt := 16) hx hb ⟨hg2, by decide⟩ dX11_liked_2 (by decide) (fun (c2 : x1 = (-1)) => ?_) (fun (c2 : ¬ (x1 = (-1))) => ?_)
  · rw [if_pos c2] at hf
    exact wX11_liked_16 C hret σ x1 H locs ls hw (lv_sub hl [0, 1] rfl) hf
  · rw [if_neg c2] at hf
    refine lv_aload_n hx hb dX11_liked_5 rfl (lv_at hl 0 rfl) ?_
    refine lv_iload_n hx hb dX11_liked_6 rfl (lv_at hl 1 rfl) ?_
    obtain ⟨r7, h7, hf⟩ := bd_s hf
    replace hf := bt_s hf
    refine gVi (As := [.int (zI x1)]) (rest := []) C hw (tX11_isEater h7) (cwV 1 hts gX11_liked_X11_isEater rfl rfl rfl (by decide +kernel) ⟨Nat.le_of_ble_eq_true rfl, Nat.le_of_ble_eq_true rfl⟩) 11 0 rfl rfl rfl hl.1 rfl (Nat.le_of_ble_eq_true rfl) dX11_liked_7 (fun H locs hw => ?_)
    obtain ⟨hg10, hf⟩ := gd_s hf
    refine zv_if_ne (tgt := 16) hx hb hg10 dX11_liked_10 (by decide) (fun (c10 : ¬ (r7 = 0)) => ?_) (fun (c10 : r7 = 0) => ?_)
    · rw [if_neg c10] at hf
      exact wX11_liked_16 C hret σ x1 H locs ls hw (lv_sub hl [0, 1] rfl) hf
    · rw [if_pos c10] at hf
      refine zv_ldc hx hb (-1000000001) (by decide +kernel) hown (hts (.constant RX11 200 (-1000000001)) (List.mem_of_getElem? (i := 1) rfl)) dX11_liked_13 ?_
      cases hf
      exact hret H locs ls 15 dX11_liked_15 hw
set_option maxHeartbeats 4000000 in
set_option maxRecDepth 100000 in
theorem tX11_liked {l : Launch} {D : va_G} {A : Nat → Prop} {cI cZ : ClassId} {q : Nat → Nat} {σ : St} {x1 : Int} {r : Int} {τ : St} (hf : pX11_liked σ x1 = some (r, τ)) : Met l yX11_liked wsX11_liked rmX11_liked (va_Pc [.ref (q 0), .int (zI x1)] (CX D (TY cI cZ) A (wM q cI cZ σ))) (QI D (TY cI cZ) A (wM q cI cZ τ) (zI r)) 0 0 A := by
  refine opn (cc := cX11_liked) (maxL := 7) (ret := (some .int)) (by decide) rfl (Nat.le_of_ble_eq_true rfl) (fun p e s m below meth c C ls hw hl => ?_)
  have hl : lv_has ls 7 [(0, .ref (q 0)), (1, .int (zI x1))] := hl
  rw [pX11_liked] at hf
  exact wX11_liked_0 C (rtI C) σ x1 _ _ ls hw (lv_sub hl [0, 1] rfl) hf
abbrev rmX10_goose : Room := { frames := 1, cells := 0, slots := 0, locals := 22 }
set_option maxHeartbeats 4000000 in
set_option maxRecDepth 100000 in
theorem wX10_goose_67 {p : Program} {l : Launch} {e : Env} {s : State} {m : MethodId} {args : Array Value} {below : List Frame} {meth : Method} {c : Code} {D : va_G} {A : Nat → Prop} {q : Nat → Nat} {cI cZ : ClassId} {Q : State → Prop} {σ : St} {r : Int} (C : Cx p s m args meth c D (TY cI cZ) cX10_goose (some .int) 4 wsX10_goose RX10) (hret : RtI p l e rmX10_goose s m args below meth c D A cX10_goose Q (wE q cI cZ σ) (zI r)) :
    ∀ (t0 : Int) (t1 : Int) (H : Heap) (locs : List Loc) (ls : Array Slot), Wd D A s (wE q cI cZ σ) H locs → lv_has ls 4 [] → pX10_goose_67 σ t0 t1 = some r → W p l e rmX10_goose s m args below meth c H locs 0 0 Q (F0 m 67 ls [.int (zI t1), .int (zI t0)]) := by
  obtain ⟨hx, hb, hr, hml, hown, hts, hlk, hK, hN⟩ := id C
  intro t0 t1 H locs ls hw hl hf
  rw [pX10_goose_67] at hf
  refine zv_iadd hx hb dX10_goose_67 ?_
  cases hf
  exact hret H locs ls 68 dX10_goose_68 hw
set_option maxHeartbeats 4000000 in
set_option maxRecDepth 100000 in
theorem wX10_goose_0 {p : Program} {l : Launch} {e : Env} {s : State} {m : MethodId} {args : Array Value} {below : List Frame} {meth : Method} {c : Code} {D : va_G} {A : Nat → Prop} {q : Nat → Nat} {cI cZ : ClassId} {Q : State → Prop} {σ : St} {r : Int} (C : Cx p s m args meth c D (TY cI cZ) cX10_goose (some .int) 4 wsX10_goose RX10) (hret : RtI p l e rmX10_goose s m args below meth c D A cX10_goose Q (wE q cI cZ σ) (zI r)) :
    ∀ (x1 : Int) (x2 : Int) (H : Heap) (locs : List Loc) (ls : Array Slot), Wd D A s (wE q cI cZ σ) H locs → lv_has ls 4 [(0, .ref (q 0)), (1, .int (zI x1)), (2, .int (zI x2))] → pX10_goose_0 σ x1 x2 = some r → W p l e rmX10_goose s m args below meth c H locs 0 0 Q (F0 m 0 ls []) := by
  obtain ⟨hx, hb, hr, hml, hown, hts, hlk, hK, hN⟩ := id C
  intro x1 x2 H locs ls hw hl hf
  rw [pX10_goose_0] at hf
  refine lv_aload_n hx hb dX10_goose_0 rfl (lv_at hl 0 rfl) ?_
  refine va_get (D := D) (ci := 10) (v := .ref (q 1)) (C := RX10) (T := TX10) (N := 13) hx hb hts (fun _ h => List.mem_cons_of_mem _ (List.mem_append_left _ (List.mem_append_right _ h))) hown hK hw.1 0 rfl rfl 1 (by decide) (hts (.fieldLink RX10 19 "EggThrones" "laid" "LEggThrones$Table;") (List.mem_of_getElem? (i := 1) rfl)) (fun _ h9 => h9) rfl dX10_goose_1 ?_
  refine lv_iload_n hx hb dX10_goose_4 rfl (lv_at hl 2 rfl) ?_
  obtain ⟨r5, h5, hf⟩ := bd_s hf
  replace hf := bt_s hf
  refine gVi (As := [.int (zI x2)]) (rest := []) C hw (tX8_hasEater_c1 h5) (cwV 1 hts gX10_goose_X8_hasEater rfl rfl rfl (by decide +kernel) ⟨Nat.le_of_ble_eq_true rfl, Nat.le_of_ble_eq_true rfl⟩) 8 1 rfl rfl rfl hl.1 rfl (Nat.le_of_ble_eq_true rfl) dX10_goose_5 (fun H locs hw => ?_)
  obtain ⟨hg8, hf⟩ := gd_s hf
  refine zv_if_eq (tgt := 21) hx hb hg8 dX10_goose_8 (by decide) (fun (c8 : r5 = 0) => ?_) (fun (c8 : ¬ (r5 = 0)) => ?_)
  · rw [if_pos c8] at hf
    refine zv_ldc hx hb (-1000000001) (by decide +kernel) hown (hts (.constant RX10 175 (-1000000001)) (List.mem_of_getElem? (i := 2) rfl)) dX10_goose_21 ?_
    cases hf
    exact hret H locs ls 23 dX10_goose_23 hw
  · rw [if_neg c8] at hf
    refine lv_aload_n hx hb dX10_goose_11 rfl (lv_at hl 0 rfl) ?_
    refine va_get (D := D) (ci := 10) (v := .ref (q 1)) (C := RX10) (T := TX10) (N := 13) hx hb hts (fun _ h => List.mem_cons_of_mem _ (List.mem_append_left _ (List.mem_append_right _ h))) hown hK hw.1 0 rfl rfl 1 (by decide) (hts (.fieldLink RX10 19 "EggThrones" "laid" "LEggThrones$Table;") (List.mem_of_getElem? (i := 1) rfl)) (fun _ h9 => h9) rfl dX10_goose_12 ?_
    refine va_getN (D := D) (ci := 8) (v := .int (zI (σ.1 6))) (C := RX8) (T := TX8) (N := 10) hx hb hts (fun _ h => List.mem_cons_of_mem _ (List.mem_append_right _ h)) hown hK hw.1 1 rfl rfl 4 (by decide) (va_Nw.use rfl (hN (.fieldLinkNest "EggThrones" 139 "EggThrones$Table" "eaters" "I" "EggThrones") (by decide +kernel))) (fun _ h9 => h9) rfl dX10_goose_15 ?_
    obtain ⟨hg18, hf⟩ := gd_s hf
    refine zv_if_gt (tgt := 24) hx hb hg18 dX10_goose_18 (by decide) (fun (c18 : 0 < (σ.1 6)) => ?_) (fun (c18 : ¬ (0 < (σ.1 6))) => ?_)
    · rw [if_pos c18] at hf
      refine lv_iload_n hx hb dX10_goose_24 rfl (lv_at hl 1 rfl) ?_
      refine lv_iconst (v := zI 0) hx hb dX10_goose_25 rfl ?_
      refine lv_sipush (v := zI 999) hx hb dX10_goose_26 (by decide +kernel) ?_
      obtain ⟨r29, h29, hf⟩ := bd_s hf
      replace hf := bt_s hf
      refine gSi (As := [.int (zI x1), .int (zI 0), .int (zI 999)]) (rest := []) C hw (tX10_isWithin h29) (va_cwS 3 hts gX10_goose_X10_isWithin rfl rfl rfl (by decide +kernel) ⟨Nat.le_of_ble_eq_true rfl, Nat.le_of_ble_eq_true rfl⟩) rfl hl.1 rfl (Nat.le_of_ble_eq_true rfl) dX10_goose_29 (fun H locs hw => ?_)
      obtain ⟨hg32, hf⟩ := gd_s hf
      refine zv_if_ne (tgt := 38) hx hb hg32 dX10_goose_32 (by decide) (fun (c32 : ¬ (r29 = 0)) => ?_) (fun (c32 : r29 = 0) => ?_)
      · rw [if_neg c32] at hf
        refine lv_iload_n hx hb dX10_goose_38 rfl (lv_at hl 1 rfl) ?_
        refine lv_aload_n hx hb dX10_goose_39 rfl (lv_at hl 0 rfl) ?_
        refine va_get (D := D) (ci := 10) (v := .ref (q 1)) (C := RX10) (T := TX10) (N := 13) hx hb hts (fun _ h => List.mem_cons_of_mem _ (List.mem_append_left _ (List.mem_append_right _ h))) hown hK hw.1 0 rfl rfl 1 (by decide) (hts (.fieldLink RX10 19 "EggThrones" "laid" "LEggThrones$Table;") (List.mem_of_getElem? (i := 1) rfl)) (fun _ h9 => h9) rfl dX10_goose_40 ?_
        refine va_getN (D := D) (ci := 8) (v := .int (zI (σ.1 6))) (C := RX8) (T := TX8) (N := 10) hx hb hts (fun _ h => List.mem_cons_of_mem _ (List.mem_append_right _ h)) hown hK hw.1 1 rfl rfl 4 (by decide) (va_Nw.use rfl (hN (.fieldLinkNest "EggThrones" 139 "EggThrones$Table" "eaters" "I" "EggThrones") (by decide +kernel))) (fun _ h9 => h9) rfl dX10_goose_43 ?_
        obtain ⟨hz46, hf⟩ := gd_s hf
        refine zv_irem hx hb hz46 dX10_goose_46 ?_
        refine lv_istore_n (lv' := [(3, .int (zI (x1 % (σ.1 6)))), (0, .ref (q 0)), (1, .int (zI x1)), (2, .int (zI x2))]) hx hb dX10_goose_47 rfl hl (by decide) rfl (fun ls hl => ?_)
        refine lv_iload_n hx hb dX10_goose_48 rfl (lv_at hl 2 rfl) ?_
        refine lv_aload_n hx hb dX10_goose_49 rfl (lv_at hl 1 rfl) ?_
        refine va_get (D := D) (ci := 10) (v := .ref (q 1)) (C := RX10) (T := TX10) (N := 13) hx hb hts (fun _ h => List.mem_cons_of_mem _ (List.mem_append_left _ (List.mem_append_right _ h))) hown hK hw.1 0 rfl rfl 1 (by decide) (hts (.fieldLink RX10 19 "EggThrones" "laid" "LEggThrones$Table;") (List.mem_of_getElem? (i := 1) rfl)) (fun _ h9 => h9) rfl dX10_goose_50 ?_
        refine va_getN (D := D) (ci := 8) (v := .int (zI (σ.1 6))) (C := RX8) (T := TX8) (N := 10) hx hb hts (fun _ h => List.mem_cons_of_mem _ (List.mem_append_right _ h)) hown hK hw.1 1 rfl rfl 4 (by decide) (va_Nw.use rfl (hN (.fieldLinkNest "EggThrones" 139 "EggThrones$Table" "eaters" "I" "EggThrones") (by decide +kernel))) (fun _ h9 => h9) rfl dX10_goose_53 ?_
        obtain ⟨hz56, hf⟩ := gd_s hf
        refine zv_idiv hx hb hz56 dX10_goose_56 ?_
        refine lv_iload_n hx hb dX10_goose_57 rfl (lv_at hl 3 rfl) ?_
        refine lv_iload_n hx hb dX10_goose_58 rfl (lv_at hl 0 rfl) ?_
        obtain ⟨hg59, hf⟩ := gd_s hf
        refine zv_icmp_ge (tgt := 66) hx hb hg59 dX10_goose_59 (by decide) (fun (c59 : (x1 % (σ.1 6)) ≤ x2) => ?_) (fun (c59 : ¬ ((x1 % (σ.1 6)) ≤ x2)) => ?_)
        · rw [if_pos c59] at hf
          refine lv_iconst (v := zI 0) hx hb dX10_goose_66 rfl ?_
          exact wX10_goose_67 C hret (x1 / (σ.1 6)) 0 H locs ls hw (lv_sub hl [] rfl) hf
        · rw [if_neg c59] at hf
          refine lv_iconst (v := zI 1) hx hb dX10_goose_62 rfl ?_
          refine lv_goto (tgt := 67) hx hb dX10_goose_63 (by decide) ?_
          exact wX10_goose_67 C hret (x1 / (σ.1 6)) 1 H locs ls hw (lv_sub hl [] rfl) hf
      · rw [if_pos c32] at hf
        refine zv_ldc hx hb (-1000000002) (by decide +kernel) hown (hts (.constant RX10 95 (-1000000002)) (List.mem_of_getElem? (i := 3) rfl)) dX10_goose_35 ?_
        cases hf
        exact hret H locs ls 37 dX10_goose_37 hw
    · rw [if_neg c18] at hf
      refine zv_ldc hx hb (-1000000001) (by decide +kernel) hown (hts (.constant RX10 175 (-1000000001)) (List.mem_of_getElem? (i := 2) rfl)) dX10_goose_21 ?_
      cases hf
      exact hret H locs ls 23 dX10_goose_23 hw
set_option maxHeartbeats 4000000 in
set_option maxRecDepth 100000 in
theorem tX10_goose {l : Launch} {D : va_G} {A : Nat → Prop} {cI cZ : ClassId} {q : Nat → Nat} {σ : St} {x1 : Int} {x2 : Int} {r : Int} (hf : pX10_goose σ x1 x2 = some r) : Met l yX10_goose wsX10_goose rmX10_goose (va_Pc [.ref (q 0), .int (zI x1), .int (zI x2)] (CX D (TY cI cZ) A (wE q cI cZ σ))) (QI D (TY cI cZ) A (wE q cI cZ σ) (zI r)) 0 0 A := by
  refine opn (cc := cX10_goose) (maxL := 4) (ret := (some .int)) (by decide) rfl (Nat.le_of_ble_eq_true rfl) (fun p e s m below meth c C ls hw hl => ?_)
  have hl : lv_has ls 4 [(0, .ref (q 0)), (1, .int (zI x1)), (2, .int (zI x2))] := hl
  rw [pX10_goose] at hf
  exact wX10_goose_0 C (rtI C) x1 x2 _ _ ls hw (lv_sub hl [0, 1, 2] rfl) hf
abbrev rmX11_goose : Room := { frames := 2, cells := 0, slots := 0, locals := 46 }
set_option maxHeartbeats 4000000 in
set_option maxRecDepth 100000 in
theorem wX11_goose_44 {p : Program} {l : Launch} {e : Env} {s : State} {m : MethodId} {args : Array Value} {below : List Frame} {meth : Method} {c : Code} {D : va_G} {A : Nat → Prop} {q : Nat → Nat} {cI cZ : ClassId} {Q : State → Prop} {σ : St} {r : Int} (C : Cx p s m args meth c D (TY cI cZ) cX11_goose (some .int) 3 wsX11_goose RX11) (hret : RtI p l e rmX11_goose s m args below meth c D A cX11_goose Q (wM q cI cZ σ) (zI r)) :
    ∀ (t0 : Int) (t1 : Int) (H : Heap) (locs : List Loc) (ls : Array Slot), Wd D A s (wM q cI cZ σ) H locs → lv_has ls 3 [] → pX11_goose_44 σ t0 t1 = some r → W p l e rmX11_goose s m args below meth c H locs 0 0 Q (F0 m 44 ls [.int (zI t1), .int (zI t0)]) := by
  obtain ⟨hx, hb, hr, hml, hown, hts, hlk, hK, hN⟩ := id C
  intro t0 t1 H locs ls hw hl hf
  rw [pX11_goose_44] at hf
  refine zv_iadd hx hb dX11_goose_44 ?_
  refine lv_goto (tgt := 50) hx hb dX11_goose_45 (by decide) ?_
  cases hf
  exact hret H locs ls 50 dX11_goose_50 hw
set_option maxHeartbeats 4000000 in
set_option maxRecDepth 100000 in
theorem wX11_goose_0 {p : Program} {l : Launch} {e : Env} {s : State} {m : MethodId} {args : Array Value} {below : List Frame} {meth : Method} {c : Code} {D : va_G} {A : Nat → Prop} {q : Nat → Nat} {cI cZ : ClassId} {Q : State → Prop} {σ : St} {r : Int} (C : Cx p s m args meth c D (TY cI cZ) cX11_goose (some .int) 3 wsX11_goose RX11) (hret : RtI p l e rmX11_goose s m args below meth c D A cX11_goose Q (wM q cI cZ σ) (zI r)) :
    ∀ (x1 : Int) (x2 : Int) (H : Heap) (locs : List Loc) (ls : Array Slot), Wd D A s (wM q cI cZ σ) H locs → lv_has ls 3 [(0, .ref (q 0)), (1, .int (zI x1)), (2, .int (zI x2))] → pX11_goose_0 σ x1 x2 = some r → W p l e rmX11_goose s m args below meth c H locs 0 0 Q (F0 m 0 ls []) := by
  obtain ⟨hx, hb, hr, hml, hown, hts, hlk, hK, hN⟩ := id C
  intro x1 x2 H locs ls hw hl hf
  rw [pX11_goose_0] at hf
  refine lv_aload_n hx hb dX11_goose_0 rfl (lv_at hl 0 rfl) ?_
  refine lv_iload_n hx hb dX11_goose_1 rfl (lv_at hl 2 rfl) ?_
  obtain ⟨r2, h2, hf⟩ := bd_s hf
  replace hf := bt_s hf
  refine gVi (As := [.int (zI x2)]) (rest := []) C hw (tX11_isEater h2) (cwV 1 hts gX11_goose_X11_isEater rfl rfl rfl (by decide +kernel) ⟨Nat.le_of_ble_eq_true rfl, Nat.le_of_ble_eq_true rfl⟩) 11 0 rfl rfl rfl hl.1 rfl (Nat.le_of_ble_eq_true rfl) dX11_goose_2 (fun H locs hw => ?_)
  obtain ⟨hg5, hf⟩ := gd_s hf
  refine zv_if_ne (tgt := 11) hx hb hg5 dX11_goose_5 (by decide) (fun (c5 : ¬ (r2 = 0)) => ?_) (fun (c5 : r2 = 0) => ?_)
  · rw [if_neg c5] at hf
    refine lv_iload_n hx hb dX11_goose_11 rfl (lv_at hl 1 rfl) ?_
    obtain ⟨hz12, hf⟩ := gd_s hf
    refine zv_i2l hx hb hz12 dX11_goose_12 ?_
    refine lv_lconst (v := zL 0) hx hb dX11_goose_13 (by decide +kernel) ?_
    refine zv_ldc2 hx hb 999 (by decide +kernel) hown (hts (.constantLong RX11 272 (999)) (List.mem_of_getElem? (i := 2) rfl)) dX11_goose_14 ?_
    obtain ⟨r17, h17, hf⟩ := bd_s hf
    replace hf := bt_s hf
    refine gSi (As := [.long (zL x1), .long (zL 0), .long (zL 999)]) (rest := []) C hw (tX11_in h17) (va_cwS 3 hts gX11_goose_X11_in rfl rfl rfl (by decide +kernel) ⟨Nat.le_of_ble_eq_true rfl, Nat.le_of_ble_eq_true rfl⟩) rfl hl.1 rfl (Nat.le_of_ble_eq_true rfl) dX11_goose_17 (fun H locs hw => ?_)
    obtain ⟨hg20, hf⟩ := gd_s hf
    refine zv_if_eq (tgt := 48) hx hb hg20 dX11_goose_20 (by decide) (fun (c20 : r17 = 0) => ?_) (fun (c20 : ¬ (r17 = 0)) => ?_)
    · rw [if_pos c20] at hf
      refine zv_ldc hx hb (-1000000002) (by decide +kernel) hown (hts (.constant RX11 105 (-1000000002)) (List.mem_of_getElem? (i := 4) rfl)) dX11_goose_48 ?_
      cases hf
      exact hret H locs ls 50 dX11_goose_50 hw
    · rw [if_neg c20] at hf
      refine lv_iload_n hx hb dX11_goose_23 rfl (lv_at hl 1 rfl) ?_
      refine lv_aload_n hx hb dX11_goose_24 rfl (lv_at hl 0 rfl) ?_
      refine va_get (D := D) (ci := 11) (v := .int (zI (σ.1 3))) (C := RX11) (T := TX11) (N := 40) hx hb hts (fun _ h => List.mem_cons_of_mem _ (List.mem_append_right _ h)) hown hK hw.1 0 rfl rfl 5 (by decide) (hts (.fieldLink RX11 100 "EggThronesModel" "eaters" "I") (List.mem_of_getElem? (i := 3) rfl)) (fun _ h9 => h9) rfl dX11_goose_25 ?_
      obtain ⟨hz28, hf⟩ := gd_s hf
      refine zv_idiv hx hb hz28 dX11_goose_28 ?_
      refine lv_iload_n hx hb dX11_goose_29 rfl (lv_at hl 2 rfl) ?_
      refine lv_iload_n hx hb dX11_goose_30 rfl (lv_at hl 1 rfl) ?_
      refine lv_aload_n hx hb dX11_goose_31 rfl (lv_at hl 0 rfl) ?_
      refine va_get (D := D) (ci := 11) (v := .int (zI (σ.1 3))) (C := RX11) (T := TX11) (N := 40) hx hb hts (fun _ h => List.mem_cons_of_mem _ (List.mem_append_right _ h)) hown hK hw.1 0 rfl rfl 5 (by decide) (hts (.fieldLink RX11 100 "EggThronesModel" "eaters" "I") (List.mem_of_getElem? (i := 3) rfl)) (fun _ h9 => h9) rfl dX11_goose_32 ?_
      obtain ⟨hz35, hf⟩ := gd_s hf
      refine zv_irem hx hb hz35 dX11_goose_35 ?_
      obtain ⟨hg36, hf⟩ := gd_s hf
      refine zv_icmp_ge (tgt := 43) hx hb hg36 dX11_goose_36 (by decide) (fun (c36 : (x1 % (σ.1 3)) ≤ x2) => ?_) (fun (c36 : ¬ ((x1 % (σ.1 3)) ≤ x2)) => ?_)
      · rw [if_pos c36] at hf
        refine lv_iconst (v := zI 0) hx hb dX11_goose_43 rfl ?_
        exact wX11_goose_44 C hret (x1 / (σ.1 3)) 0 H locs ls hw (lv_sub hl [] rfl) hf
      · rw [if_neg c36] at hf
        refine lv_iconst (v := zI 1) hx hb dX11_goose_39 rfl ?_
        refine lv_goto (tgt := 44) hx hb dX11_goose_40 (by decide) ?_
        exact wX11_goose_44 C hret (x1 / (σ.1 3)) 1 H locs ls hw (lv_sub hl [] rfl) hf
  · rw [if_pos c5] at hf
    refine zv_ldc hx hb (-1000000001) (by decide +kernel) hown (hts (.constant RX11 200 (-1000000001)) (List.mem_of_getElem? (i := 1) rfl)) dX11_goose_8 ?_
    cases hf
    exact hret H locs ls 10 dX11_goose_10 hw
set_option maxHeartbeats 4000000 in
set_option maxRecDepth 100000 in
theorem tX11_goose {l : Launch} {D : va_G} {A : Nat → Prop} {cI cZ : ClassId} {q : Nat → Nat} {σ : St} {x1 : Int} {x2 : Int} {r : Int} (hf : pX11_goose σ x1 x2 = some r) : Met l yX11_goose wsX11_goose rmX11_goose (va_Pc [.ref (q 0), .int (zI x1), .int (zI x2)] (CX D (TY cI cZ) A (wM q cI cZ σ))) (QI D (TY cI cZ) A (wM q cI cZ σ) (zI r)) 0 0 A := by
  refine opn (cc := cX11_goose) (maxL := 3) (ret := (some .int)) (by decide) rfl (Nat.le_of_ble_eq_true rfl) (fun p e s m below meth c C ls hw hl => ?_)
  have hl : lv_has ls 3 [(0, .ref (q 0)), (1, .int (zI x1)), (2, .int (zI x2))] := hl
  rw [pX11_goose] at hf
  exact wX11_goose_0 C (rtI C) x1 x2 _ _ ls hw (lv_sub hl [0, 1, 2] rfl) hf
