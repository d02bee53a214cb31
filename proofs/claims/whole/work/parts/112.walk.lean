abbrev rmX11_chance : Room := { frames := 4, cells := 0, slots := 0, locals := 87 }
set_option maxHeartbeats 4000000 in
set_option maxRecDepth 100000 in
theorem wX11_chance_62 {p : Program} {l : Launch} {e : Env} {s : State} {m : MethodId} {args : Array Value} {below : List Frame} {meth : Method} {c : Code} {D : va_G} {A : Nat → Prop} {q : Nat → Nat} {cI cZ : ClassId} {Q : State → Prop} {τ : St} (C : Cx p s m args meth c D (TY cI cZ) cX11_chance none 3 wsX11_chance RX11) (hret : RtV p l e rmX11_chance s m args below meth c D A cX11_chance Q (wM q cI cZ τ)) :
    ∀ (σ : St) (x1 : Int) (x2 : Int) (H : Heap) (locs : List Loc) (ls : Array Slot), Wd D A s (wM q cI cZ σ) H locs → lv_has ls 3 [(0, .ref (q 0)), (1, .int (zI x1)), (2, .int (zI x2))] → pX11_chance_62 σ x1 x2 = some τ → W p l e rmX11_chance s m args below meth c H locs 0 0 Q (F0 m 62 ls []) := by
  obtain ⟨hx, hb, hr, hml, hown, hts, hlk, hK, hN⟩ := id C
  intro σ x1 x2 H locs ls hw hl hf
  rw [pX11_chance_62] at hf
  refine lv_iload_n hx hb dX11_chance_62 rfl (lv_at hl 2 rfl) ?_
  refine lv_iconst (v := zI 2) hx hb dX11_chance_63 rfl ?_
  obtain ⟨hg64, hf⟩ := gd_s hf
  refine zv_icmp_ne (tgt := 80) hx hb ⟨hg64, by decide⟩ dX11_chance_64 (by decide) (fun (c64 : ¬ (x2 = 2)) => ?_) (fun (c64 : x2 = 2) => ?_)
  · rw [if_neg c64] at hf
    cases hf
    exact hret H locs ls 80 dX11_chance_80 hw
  · rw [if_pos c64] at hf
    refine lv_aload_n hx hb dX11_chance_67 rfl (lv_at hl 0 rfl) ?_
    refine lv_iload_n hx hb dX11_chance_68 rfl (lv_at hl 1 rfl) ?_
    obtain ⟨r69, h69, hf⟩ := bd_s hf
    replace hf := bt_s hf
    refine gVi (As := [.int (zI x1)]) (rest := []) C hw (tX11_canCrown h69) (cwV 1 hts gX11_chance_X11_canCrown rfl rfl rfl (by decide +kernel) ⟨Nat.le_of_ble_eq_true rfl, Nat.le_of_ble_eq_true rfl⟩) 11 0 rfl rfl rfl hl.1 rfl (Nat.le_of_ble_eq_true rfl) dX11_chance_69 (fun H locs hw => ?_)
    obtain ⟨hg72, hf⟩ := gd_s hf
    refine zv_if_eq (tgt := 80) hx hb hg72 dX11_chance_72 (by decide) (fun (c72 : r69 = 0) => ?_) (fun (c72 : ¬ (r69 = 0)) => ?_)
    · rw [if_pos c72] at hf
      cases hf
      exact hret H locs ls 80 dX11_chance_80 hw
    · rw [if_neg c72] at hf
      refine lv_aload_n hx hb dX11_chance_75 rfl (lv_at hl 0 rfl) ?_
      refine lv_iload_n hx hb dX11_chance_76 rfl (lv_at hl 1 rfl) ?_
      obtain ⟨σ77, h77, hf⟩ := bd_s hf
      replace hf := bt_s hf
      refine gVv (As := [.int (zI x1)]) (rest := []) C hw (tX11_crownNow h77) (cwV 1 hts gX11_chance_X11_crownNow rfl rfl rfl (by decide +kernel) ⟨Nat.le_of_ble_eq_true rfl, Nat.le_of_ble_eq_true rfl⟩) 11 0 rfl rfl rfl hl.1 rfl (Nat.le_of_ble_eq_true rfl) dX11_chance_77 (fun H locs hw => ?_)
      cases hf
      exact hret H locs ls 80 dX11_chance_80 hw
set_option maxHeartbeats 4000000 in
set_option maxRecDepth 100000 in
theorem wX11_chance_37 {p : Program} {l : Launch} {e : Env} {s : State} {m : MethodId} {args : Array Value} {below : List Frame} {meth : Method} {c : Code} {D : va_G} {A : Nat → Prop} {q : Nat → Nat} {cI cZ : ClassId} {Q : State → Prop} {τ : St} (C : Cx p s m args meth c D (TY cI cZ) cX11_chance none 3 wsX11_chance RX11) (hret : RtV p l e rmX11_chance s m args below meth c D A cX11_chance Q (wM q cI cZ τ)) :
    ∀ (σ : St) (x1 : Int) (x2 : Int) (H : Heap) (locs : List Loc) (ls : Array Slot), Wd D A s (wM q cI cZ σ) H locs → lv_has ls 3 [(0, .ref (q 0)), (1, .int (zI x1)), (2, .int (zI x2))] → pX11_chance_37 σ x1 x2 = some τ → W p l e rmX11_chance s m args below meth c H locs 0 0 Q (F0 m 37 ls []) := by
  obtain ⟨hx, hb, hr, hml, hown, hts, hlk, hK, hN⟩ := id C
  intro σ x1 x2 H locs ls hw hl hf
  rw [pX11_chance_37] at hf
  refine lv_iload_n hx hb dX11_chance_37 rfl (lv_at hl 2 rfl) ?_
  refine lv_iconst (v := zI 1) hx hb dX11_chance_38 rfl ?_
  obtain ⟨hg39, hf⟩ := gd_s hf
  refine zv_icmp_ne (tgt := 62) hx hb ⟨hg39, by decide⟩ dX11_chance_39 (by decide) (fun (c39 : ¬ (x2 = 1)) => ?_) (fun (c39 : x2 = 1) => ?_)
  · rw [if_neg c39] at hf
    exact wX11_chance_62 C hret σ x1 x2 H locs ls hw (lv_sub hl [0, 1, 2] rfl) hf
  · rw [if_pos c39] at hf
    refine lv_aload_n hx hb dX11_chance_42 rfl (lv_at hl 0 rfl) ?_
    refine va_get (D := D) (ci := 11) (v := .ref (q 6)) (C := RX11) (T := TX11) (N := 40) hx hb hts (fun _ h => List.mem_cons_of_mem _ (List.mem_append_right _ h)) hown hK hw.1 0 rfl rfl 9 (by decide) (hts (.fieldLink RX11 25 "EggThronesModel" "now" "[I") (List.mem_of_getElem? (i := 2) rfl)) (fun _ h9 => h9) rfl dX11_chance_43 ?_
    refine lv_iload_n hx hb dX11_chance_46 rfl (lv_at hl 1 rfl) ?_
    obtain ⟨hi47, hf⟩ := gd_s hf
    refine zv_iald (D := D) hx hb hK hw.1 6 0 rfl rfl hi47 (by decide) dX11_chance_47 ?_
    refine lv_iconst (v := zI 1) hx hb dX11_chance_48 rfl ?_
    obtain ⟨hg49, hf⟩ := gd_s hf
    refine zv_icmp_ne (tgt := 62) hx hb ⟨hg49, by decide⟩ dX11_chance_49 (by decide) (fun (c49 : ¬ ((σ.2 5 (Int.toNat x1)) = 1)) => ?_) (fun (c49 : (σ.2 5 (Int.toNat x1)) = 1) => ?_)
    · rw [if_neg c49] at hf
      exact wX11_chance_62 C hret σ x1 x2 H locs ls hw (lv_sub hl [0, 1, 2] rfl) hf
    · rw [if_pos c49] at hf
      refine lv_aload_n hx hb dX11_chance_52 rfl (lv_at hl 0 rfl) ?_
      refine va_get (D := D) (ci := 11) (v := .ref (q 6)) (C := RX11) (T := TX11) (N := 40) hx hb hts (fun _ h => List.mem_cons_of_mem _ (List.mem_append_right _ h)) hown hK hw.1 0 rfl rfl 9 (by decide) (hts (.fieldLink RX11 25 "EggThronesModel" "now" "[I") (List.mem_of_getElem? (i := 2) rfl)) (fun _ h9 => h9) rfl dX11_chance_53 ?_
      refine lv_iload_n hx hb dX11_chance_56 rfl (lv_at hl 1 rfl) ?_
      refine lv_iconst (v := zI 2) hx hb dX11_chance_57 rfl ?_
      obtain ⟨hi58, hf⟩ := gd_s hf
      refine zv_iast (D := D) hx hb hK hw.1 hw.2.1 hw.2.2 6 0 rfl rfl hi58 (by decide) dX11_chance_58 (fun H locs hP hD hS => ?_)
      have hw : Wd D A s (wM q cI cZ (sA σ 5 (va_up (σ.2 5) (Int.toNat x1) 2))) H locs := wdaM_5 hP hD hS
      obtain ⟨σ58, e58, hf⟩ := nm_s hf
      replace hf := bt_s hf
      rw [← e58] at hw
      refine lv_goto (tgt := 80) hx hb dX11_chance_59 (by decide) ?_
      cases hf
      exact hret H locs ls 80 dX11_chance_80 hw
set_option maxHeartbeats 4000000 in
set_option maxRecDepth 100000 in
theorem wX11_chance_0 {p : Program} {l : Launch} {e : Env} {s : State} {m : MethodId} {args : Array Value} {below : List Frame} {meth : Method} {c : Code} {D : va_G} {A : Nat → Prop} {q : Nat → Nat} {cI cZ : ClassId} {Q : State → Prop} {τ : St} (C : Cx p s m args meth c D (TY cI cZ) cX11_chance none 3 wsX11_chance RX11) (hret : RtV p l e rmX11_chance s m args below meth c D A cX11_chance Q (wM q cI cZ τ)) :
    ∀ (σ : St) (H : Heap) (locs : List Loc) (ls : Array Slot), Wd D A s (wM q cI cZ σ) H locs → lv_has ls 3 [(0, .ref (q 0))] → pX11_chance_0 σ = some τ → W p l e rmX11_chance s m args below meth c H locs 0 0 Q (F0 m 0 ls []) := by
  obtain ⟨hx, hb, hr, hml, hown, hts, hlk, hK, hN⟩ := id C
  intro σ H locs ls hw hl hf
  rw [pX11_chance_0] at hf
  refine lv_aload_n hx hb dX11_chance_0 rfl (lv_at hl 0 rfl) ?_
  refine lv_aload_n hx hb dX11_chance_1 rfl (lv_at hl 0 rfl) ?_
  refine va_get (D := D) (ci := 11) (v := .int (zI (σ.1 2))) (C := RX11) (T := TX11) (N := 40) hx hb hts (fun _ h => List.mem_cons_of_mem _ (List.mem_append_right _ h)) hown hK hw.1 0 rfl rfl 2 (by decide) (hts (.fieldLink RX11 93 "EggThronesModel" "eggs" "I") (List.mem_of_getElem? (i := 1) rfl)) (fun _ h9 => h9) rfl dX11_chance_2 ?_
  obtain ⟨⟨r5, σ5⟩, h5, hf⟩ := bd_s hf
  have hf := hf2_s hf
  refine gVi (As := [.int (zI (σ.1 2))]) (rest := []) C hw (tX11_draw h5) (cwV 1 hts gX11_chance_X11_draw rfl rfl rfl (by decide +kernel) ⟨Nat.le_of_ble_eq_true rfl, Nat.le_of_ble_eq_true rfl⟩) 11 0 rfl rfl rfl hl.1 rfl (Nat.le_of_ble_eq_true rfl) dX11_chance_5 (fun H locs hw => ?_)
  refine lv_istore_n (lv' := [(1, .int (zI r5)), (0, .ref (q 0))]) hx hb dX11_chance_8 rfl hl (by decide) rfl (fun ls hl => ?_)
  refine lv_aload_n hx hb dX11_chance_9 rfl (lv_at hl 1 rfl) ?_
  refine lv_iconst (v := zI 3) hx hb dX11_chance_10 rfl ?_
  obtain ⟨⟨r11, σ11⟩, h11, hf⟩ := bd_s hf
  have hf := hf2_s hf
  refine gVi (As := [.int (zI 3)]) (rest := []) C hw (tX11_draw h11) (cwV 1 hts gX11_chance_X11_draw rfl rfl rfl (by decide +kernel) ⟨Nat.le_of_ble_eq_true rfl, Nat.le_of_ble_eq_true rfl⟩) 11 0 rfl rfl rfl hl.1 rfl (Nat.le_of_ble_eq_true rfl) dX11_chance_11 (fun H locs hw => ?_)
  refine lv_istore_n (lv' := [(2, .int (zI r11)), (1, .int (zI r5)), (0, .ref (q 0))]) hx hb dX11_chance_14 rfl hl (by decide) rfl (fun ls hl => ?_)
  refine lv_iload_n hx hb dX11_chance_15 rfl (lv_at hl 0 rfl) ?_
  obtain ⟨hg16, hf⟩ := gd_s hf
  refine zv_if_ne (tgt := 37) hx hb hg16 dX11_chance_16 (by decide) (fun (c16 : ¬ (r11 = 0)) => ?_) (fun (c16 : r11 = 0) => ?_)
  · rw [if_neg c16] at hf
    exact wX11_chance_37 C hret σ11 r5 r11 H locs ls hw (lv_sub hl [2, 1, 0] rfl) hf
  · rw [if_pos c16] at hf
    refine lv_aload_n hx hb dX11_chance_19 rfl (lv_at hl 2 rfl) ?_
    refine lv_iload_n hx hb dX11_chance_20 rfl (lv_at hl 1 rfl) ?_
    obtain ⟨r21, h21, hf⟩ := bd_s hf
    replace hf := bt_s hf
    refine gVi (As := [.int (zI r5)]) (rest := []) C hw (tX11_canPut h21) (cwV 1 hts gX11_chance_X11_canPut rfl rfl rfl (by decide +kernel) ⟨Nat.le_of_ble_eq_true rfl, Nat.le_of_ble_eq_true rfl⟩) 11 0 rfl rfl rfl hl.1 rfl (Nat.le_of_ble_eq_true rfl) dX11_chance_21 (fun H locs hw => ?_)
    obtain ⟨hg24, hf⟩ := gd_s hf
    refine zv_if_eq (tgt := 37) hx hb hg24 dX11_chance_24 (by decide) (fun (c24 : r21 = 0) => ?_) (fun (c24 : ¬ (r21 = 0)) => ?_)
    · rw [if_pos c24] at hf
      exact wX11_chance_37 C hret σ11 r5 r11 H locs ls hw (lv_sub hl [2, 1, 0] rfl) hf
    · rw [if_neg c24] at hf
      refine lv_aload_n hx hb dX11_chance_27 rfl (lv_at hl 2 rfl) ?_
      refine va_get (D := D) (ci := 11) (v := .ref (q 6)) (C := RX11) (T := TX11) (N := 40) hx hb hts (fun _ h => List.mem_cons_of_mem _ (List.mem_append_right _ h)) hown hK hw.1 0 rfl rfl 9 (by decide) (hts (.fieldLink RX11 25 "EggThronesModel" "now" "[I") (List.mem_of_getElem? (i := 2) rfl)) (fun _ h9 => h9) rfl dX11_chance_28 ?_
      refine lv_iload_n hx hb dX11_chance_31 rfl (lv_at hl 1 rfl) ?_
      refine lv_iconst (v := zI 1) hx hb dX11_chance_32 rfl ?_
      obtain ⟨hi33, hf⟩ := gd_s hf
      refine zv_iast (D := D) hx hb hK hw.1 hw.2.1 hw.2.2 6 0 rfl rfl hi33 (by decide) dX11_chance_33 (fun H locs hP hD hS => ?_)
      have hw : Wd D A s (wM q cI cZ (sA σ11 5 (va_up (σ11.2 5) (Int.toNat r5) 1))) H locs := wdaM_5 hP hD hS
      obtain ⟨σ33, e33, hf⟩ := nm_s hf
      replace hf := bt_s hf
      rw [← e33] at hw
      refine lv_goto (tgt := 80) hx hb dX11_chance_34 (by decide) ?_
      cases hf
      exact hret H locs ls 80 dX11_chance_80 hw
set_option maxHeartbeats 4000000 in
set_option maxRecDepth 100000 in
theorem tX11_chance {l : Launch} {D : va_G} {A : Nat → Prop} {cI cZ : ClassId} {q : Nat → Nat} {σ : St} {τ : St} (hf : pX11_chance σ = some τ) : Met l yX11_chance wsX11_chance rmX11_chance (va_Pc [.ref (q 0)] (CX D (TY cI cZ) A (wM q cI cZ σ))) (QV D (TY cI cZ) A (wM q cI cZ τ)) 0 0 A := by
  refine opn (cc := cX11_chance) (maxL := 3) (ret := none) (by decide) rfl (Nat.le_of_ble_eq_true rfl) (fun p e s m below meth c C ls hw hl => ?_)
  have hl : lv_has ls 3 [(0, .ref (q 0))] := hl
  rw [pX11_chance] at hf
  exact wX11_chance_0 C (rtV C) σ _ _ ls hw (lv_sub hl [0] rfl) hf
abbrev rmX11_drift : Room := { frames := 5, cells := 0, slots := 0, locals := 109 }
set_option maxHeartbeats 4000000 in
set_option maxRecDepth 100000 in
theorem wX11_drift_34 {p : Program} {l : Launch} {e : Env} {s : State} {m : MethodId} {args : Array Value} {below : List Frame} {meth : Method} {c : Code} {D : va_G} {A : Nat → Prop} {q : Nat → Nat} {cI cZ : ClassId} {Q : State → Prop} {r : Int} {τ : St} (C : Cx p s m args meth c D (TY cI cZ) cX11_drift (some .int) 4 wsX11_drift RX11) (hret : RtI p l e rmX11_drift s m args below meth c D A cX11_drift Q (wM q cI cZ τ) (zI r)) (k18 : St → Int → Int → Option (Int × St)) (hk18 : ∀ (σ : St) (x1 : Int) (x3 : Int) (H : Heap) (locs : List Loc) (ls : Array Slot), Wd D A s (wM q cI cZ σ) H locs → lv_has ls 4 [(0, .ref (q 0)), (1, .int (zI x1)), (3, .int (zI x3))] → k18 σ x1 x3 = some (r, τ) → W p l e rmX11_drift s m args below meth c H locs 0 0 Q (F0 m 18 ls [])) :
    ∀ (σ : St) (x1 : Int) (x3 : Int) (H : Heap) (locs : List Loc) (ls : Array Slot), Wd D A s (wM q cI cZ σ) H locs → lv_has ls 4 [(0, .ref (q 0)), (1, .int (zI x1)), (3, .int (zI x3))] → pX11_drift_34 k18 σ x1 x3 = some (r, τ) → W p l e rmX11_drift s m args below meth c H locs 0 0 Q (F0 m 34 ls []) := by
  obtain ⟨hx, hb, hr, hml, hown, hts, hlk, hK, hN⟩ := id C
  intro σ x1 x3 H locs ls hw hl hf
  rw [pX11_drift_34] at hf
  refine lv_aload_n hx hb dX11_drift_34 rfl (lv_at hl 0 rfl) ?_
  obtain ⟨σ35, h35, hf⟩ := bd_s hf
  replace hf := bt_s hf
  refine gVv (As := []) (rest := []) C hw (tX11_pass h35) (cwV 0 hts gX11_drift_X11_pass rfl rfl rfl (by decide +kernel) ⟨Nat.le_of_ble_eq_true rfl, Nat.le_of_ble_eq_true rfl⟩) 11 0 rfl rfl rfl hl.1 rfl (Nat.le_of_ble_eq_true rfl) dX11_drift_35 (fun H locs hw => ?_)
  refine lv_iinc (v := zI (x3 + 1)) (lv' := [(3, .int (zI (x3 + 1))), (0, .ref (q 0)), (1, .int (zI x1))]) hx hb dX11_drift_38 hl (k := 2) rfl (zI_add _ _) (by decide) rfl (fun ls hl => ?_)
  refine lv_goto (tgt := 18) hx hb dX11_drift_41 (by decide) ?_
  exact hk18 σ35 x1 (x3 + 1) H locs ls hw (lv_sub hl [1, 2, 0] rfl) hf
set_option maxHeartbeats 4000000 in
set_option maxRecDepth 100000 in
theorem wX11_drift_18 {p : Program} {l : Launch} {e : Env} {s : State} {m : MethodId} {args : Array Value} {below : List Frame} {meth : Method} {c : Code} {D : va_G} {A : Nat → Prop} {q : Nat → Nat} {cI cZ : ClassId} {Q : State → Prop} {r : Int} {τ : St} (C : Cx p s m args meth c D (TY cI cZ) cX11_drift (some .int) 4 wsX11_drift RX11) (hret : RtI p l e rmX11_drift s m args below meth c D A cX11_drift Q (wM q cI cZ τ) (zI r)) :
    ∀ (n : Nat) (σ : St) (x1 : Int) (x3 : Int) (H : Heap) (locs : List Loc) (ls : Array Slot), Wd D A s (wM q cI cZ σ) H locs → lv_has ls 4 [(0, .ref (q 0)), (1, .int (zI x1)), (3, .int (zI x3))] → pX11_drift_18 n σ x1 x3 = some (r, τ) → W p l e rmX11_drift s m args below meth c H locs 0 0 Q (F0 m 18 ls []) := by
  obtain ⟨hx, hb, hr, hml, hown, hts, hlk, hK, hN⟩ := id C
  intro n
  induction n with
  | zero =>
    intro σ x1 x3 H locs ls hw hl hf
    exact absurd (show (none : Option (Int × St)) = some (r, τ) from hf) (by simp)
  | succ n ih =>
    intro σ x1 x3 H locs ls hw hl hf
    rw [pX11_drift_18] at hf
    refine lv_iload_n hx hb dX11_drift_18 rfl (lv_at hl 2 rfl) ?_
    refine lv_iload_n hx hb dX11_drift_19 rfl (lv_at hl 1 rfl) ?_
    obtain ⟨hg20, hf⟩ := gd_s hf
    refine zv_icmp_ge (tgt := 44) hx hb hg20 dX11_drift_20 (by decide) (fun (c20 : x1 ≤ x3) => ?_) (fun (c20 : ¬ (x1 ≤ x3)) => ?_)
    · rw [if_pos c20] at hf
      refine lv_aload_n hx hb dX11_drift_44 rfl (lv_at hl 0 rfl) ?_
      refine va_get (D := D) (ci := 11) (v := .ref (q 6)) (C := RX11) (T := TX11) (N := 40) hx hb hts (fun _ h => List.mem_cons_of_mem _ (List.mem_append_right _ h)) hown hK hw.1 0 rfl rfl 9 (by decide) (hts (.fieldLink RX11 25 "EggThronesModel" "now" "[I") (List.mem_of_getElem? (i := 2) rfl)) (fun _ h9 => h9) rfl dX11_drift_45 ?_
      refine lv_bipush (v := zI 17) hx hb dX11_drift_48 (by decide +kernel) ?_
      refine zv_iald (D := D) hx hb hK hw.1 6 0 rfl rfl (by decide) (by decide) dX11_drift_50 ?_
      cases hf
      exact hret H locs ls 51 dX11_drift_51 hw
    · rw [if_neg c20] at hf
      refine lv_aload_n hx hb dX11_drift_23 rfl (lv_at hl 0 rfl) ?_
      refine va_get (D := D) (ci := 11) (v := .int (zI (σ.1 2))) (C := RX11) (T := TX11) (N := 40) hx hb hts (fun _ h => List.mem_cons_of_mem _ (List.mem_append_right _ h)) hown hK hw.1 0 rfl rfl 2 (by decide) (hts (.fieldLink RX11 93 "EggThronesModel" "eggs" "I") (List.mem_of_getElem? (i := 1) rfl)) (fun _ h9 => h9) rfl dX11_drift_24 ?_
      obtain ⟨hg27, hf⟩ := gd_s hf
      refine zv_if_le (tgt := 34) hx hb hg27 dX11_drift_27 (by decide) (fun (c27 : (σ.1 2) ≤ 0) => ?_) (fun (c27 : ¬ ((σ.1 2) ≤ 0)) => ?_)
      · rw [if_pos c27] at hf
        exact wX11_drift_34 C hret _ ih σ x1 x3 H locs ls hw (lv_sub hl [0, 1, 2] rfl) hf
      · rw [if_neg c27] at hf
        refine lv_aload_n hx hb dX11_drift_30 rfl (lv_at hl 0 rfl) ?_
        obtain ⟨σ31, h31, hf⟩ := bd_s hf
        replace hf := bt_s hf
        refine gVv (As := []) (rest := []) C hw (tX11_chance h31) (cwV 0 hts gX11_drift_X11_chance rfl rfl rfl (by decide +kernel) ⟨Nat.le_of_ble_eq_true rfl, Nat.le_of_ble_eq_true rfl⟩) 11 0 rfl rfl rfl hl.1 rfl (Nat.le_of_ble_eq_true rfl) dX11_drift_31 (fun H locs hw => ?_)
        exact wX11_drift_34 C hret _ ih σ31 x1 x3 H locs ls hw (lv_sub hl [0, 1, 2] rfl) hf
set_option maxHeartbeats 4000000 in
set_option maxRecDepth 100000 in
theorem wX11_drift_0 {p : Program} {l : Launch} {e : Env} {s : State} {m : MethodId} {args : Array Value} {below : List Frame} {meth : Method} {c : Code} {D : va_G} {A : Nat → Prop} {q : Nat → Nat} {cI cZ : ClassId} {Q : State → Prop} {r : Int} {τ : St} (C : Cx p s m args meth c D (TY cI cZ) cX11_drift (some .int) 4 wsX11_drift RX11) (hret : RtI p l e rmX11_drift s m args below meth c D A cX11_drift Q (wM q cI cZ τ) (zI r)) :
    ∀ (σ : St) (x1 : Int) (H : Heap) (locs : List Loc) (ls : Array Slot), Wd D A s (wM q cI cZ σ) H locs → lv_has ls 4 [(0, .ref (q 0)), (1, .int (zI x1))] → pX11_drift_0 σ x1 = some (r, τ) → W p l e rmX11_drift s m args below meth c H locs 0 0 Q (F0 m 0 ls []) := by
  obtain ⟨hx, hb, hr, hml, hown, hts, hlk, hK, hN⟩ := id C
  intro σ x1 H locs ls hw hl hf
  rw [pX11_drift_0] at hf
  refine lv_aload_n hx hb dX11_drift_0 rfl (lv_at hl 0 rfl) ?_
  refine lv_iload_n hx hb dX11_drift_1 rfl (lv_at hl 1 rfl) ?_
  obtain ⟨r2, h2, hf⟩ := bd_s hf
  replace hf := bt_s hf
  refine gVi (As := [.int (zI x1)]) (rest := []) C hw (tX11_minutesRefused h2) (cwV 1 hts gX11_drift_X11_minutesRefused rfl rfl rfl (by decide +kernel) ⟨Nat.le_of_ble_eq_true rfl, Nat.le_of_ble_eq_true rfl⟩) 11 0 rfl rfl rfl hl.1 rfl (Nat.le_of_ble_eq_true rfl) dX11_drift_2 (fun H locs hw => ?_)
  refine lv_istore_n (lv' := [(2, .int (zI r2)), (0, .ref (q 0)), (1, .int (zI x1))]) hx hb dX11_drift_5 rfl hl (by decide) rfl (fun ls hl => ?_)
  refine lv_iload_n hx hb dX11_drift_6 rfl (lv_at hl 0 rfl) ?_
  obtain ⟨hg7, hf⟩ := gd_s hf
  refine zv_if_eq (tgt := 12) hx hb hg7 dX11_drift_7 (by decide) (fun (c7 : r2 = 0) => ?_) (fun (c7 : ¬ (r2 = 0)) => ?_)
  · rw [if_pos c7] at hf
    refine lv_aload_n hx hb dX11_drift_12 rfl (lv_at hl 1 rfl) ?_
    obtain ⟨σ13, h13, hf⟩ := bd_s hf
    replace hf := bt_s hf
    refine gVv (As := []) (rest := []) C hw (tX11_remember h13) (cwV 0 hts gX11_drift_X11_remember rfl rfl rfl (by decide +kernel) ⟨Nat.le_of_ble_eq_true rfl, Nat.le_of_ble_eq_true rfl⟩) 11 0 rfl rfl rfl hl.1 rfl (Nat.le_of_ble_eq_true rfl) dX11_drift_13 (fun H locs hw => ?_)
    refine lv_iconst (v := zI 0) hx hb dX11_drift_16 rfl ?_
    refine lv_istore_n (lv' := [(3, .int (zI 0)), (2, .int (zI r2)), (0, .ref (q 0)), (1, .int (zI x1))]) hx hb dX11_drift_17 rfl hl (by decide) rfl (fun ls hl => ?_)
    exact wX11_drift_18 C hret FU σ13 x1 0 H locs ls hw (lv_sub hl [2, 3, 0] rfl) hf
  · rw [if_neg c7] at hf
    refine lv_iload_n hx hb dX11_drift_10 rfl (lv_at hl 0 rfl) ?_
    cases hf
    exact hret H locs ls 11 dX11_drift_11 hw
set_option maxHeartbeats 4000000 in
set_option maxRecDepth 100000 in
theorem tX11_drift {l : Launch} {D : va_G} {A : Nat → Prop} {cI cZ : ClassId} {q : Nat → Nat} {σ : St} {x1 : Int} {r : Int} {τ : St} (hf : pX11_drift σ x1 = some (r, τ)) : Met l yX11_drift wsX11_drift rmX11_drift (va_Pc [.ref (q 0), .int (zI x1)] (CX D (TY cI cZ) A (wM q cI cZ σ))) (QI D (TY cI cZ) A (wM q cI cZ τ) (zI r)) 0 0 A := by
  refine opn (cc := cX11_drift) (maxL := 4) (ret := (some .int)) (by decide) rfl (Nat.le_of_ble_eq_true rfl) (fun p e s m below meth c C ls hw hl => ?_)
  have hl : lv_has ls 4 [(0, .ref (q 0)), (1, .int (zI x1))] := hl
  rw [pX11_drift] at hf
  exact wX11_drift_0 C (rtI C) σ x1 _ _ ls hw (lv_sub hl [0, 1] rfl) hf
abbrev rmX4_loadFrom_a19 : Room := { frames := 1, cells := 0, slots := 0, locals := 60 }
set_option maxHeartbeats 4000000 in
set_option maxRecDepth 100000 in
theorem wX4_loadFrom_a19_0 {p : Program} {l : Launch} {e : Env} {s : State} {m : MethodId} {args : Array Value} {below : List Frame} {meth : Method} {c : Code} {D : va_G} {A : Nat → Prop} {q : Nat → Nat} {cI cZ : ClassId} {Q : State → Prop} {τ : St} (C : Cx p s m args meth c D (TY cI cZ) cX4_loadFrom none 4 wsX4_loadFrom RX4) (hret : RtV p l e rmX4_loadFrom_a19 s m args below meth c D A cX4_loadFrom Q (wE q cI cZ τ)) :
    ∀ (σ : St) (x2 : Int) (H : Heap) (locs : List Loc) (ls : Array Slot), Wd D A s (wE q cI cZ σ) H locs → lv_has ls 4 [(0, .ref (q 15)), (1, .ref (q 19)), (2, .int (zI x2))] → pX4_loadFrom_a19_0 σ x2 = some τ → W p l e rmX4_loadFrom_a19 s m args below meth c H locs 0 0 Q (F0 m 0 ls []) := by
  obtain ⟨hx, hb, hr, hml, hown, hts, hlk, hK, hN⟩ := id C
  intro σ x2 H locs ls hw hl hf
  rw [pX4_loadFrom_a19_0] at hf
  refine lv_aload_n hx hb dX4_loadFrom_0 rfl (lv_at hl 1 rfl) ?_
  refine lv_iload_n hx hb dX4_loadFrom_1 rfl (lv_at hl 2 rfl) ?_
  obtain ⟨r2, h2, hf⟩ := bd_s hf
  replace hf := bt_s hf
  refine gSi (As := [.ref (q 19), .int (zI x2)]) (rest := []) C hw (tX4_isRow_a19 h2) (va_cwS 2 hts gX4_loadFrom_X4_isRow rfl rfl rfl (by decide +kernel) ⟨Nat.le_of_ble_eq_true rfl, Nat.le_of_ble_eq_true rfl⟩) rfl hl.1 rfl (Nat.le_of_ble_eq_true rfl) dX4_loadFrom_2 (fun H locs hw => ?_)
  obtain ⟨hg5, hf⟩ := gd_s hf
  refine zv_if_ne (tgt := 9) hx hb hg5 dX4_loadFrom_5 (by decide) (fun (c5 : ¬ (r2 = 0)) => ?_) (fun (c5 : r2 = 0) => ?_)
  · rw [if_neg c5] at hf
    refine lv_aload_n hx hb dX4_loadFrom_9 rfl (lv_at hl 1 rfl) ?_
    refine lv_iload_n hx hb dX4_loadFrom_10 rfl (lv_at hl 2 rfl) ?_
    refine lv_aload_n hx hb dX4_loadFrom_11 rfl (lv_at hl 0 rfl) ?_
    refine va_get (D := D) (ci := 4) (v := .ref (q 16)) (C := RX4) (T := TX4) (N := 9) hx hb hts (fun _ h => List.mem_cons_of_mem _ (List.mem_append_right _ h)) hown hK hw.1 15 rfl rfl 1 (by decide) (hts (.fieldLink RX4 15 "EggThrones$Morning" "states" "[I") (List.mem_of_getElem? (i := 1) rfl)) (fun _ h9 => h9) rfl dX4_loadFrom_12 ?_
    refine lv_iconst (v := zI 0) hx hb dX4_loadFrom_15 rfl ?_
    refine lv_bipush (v := zI 7) hx hb dX4_loadFrom_16 (by decide +kernel) ?_
    obtain ⟨ha18, hf⟩ := gd_s hf
    refine zv_copyi (D := D) (rest := []) hx hb (hml.trans hl.1.symm) hown (hts (.methodLink RX4 106 arraycopyName) (List.mem_of_getElem? (i := 2) rfl)) (hts (.native arraycopyName) (List.mem_of_getElem? (i := 3) rfl)) (hts (.static arraycopyName) (List.mem_of_getElem? (i := 4) rfl)) (hts (.initialized "java/lang/System") (List.mem_of_getElem? (i := 5) rfl)) hK hw.1 hw.2.1 hw.2.2 19 16 0 0 rfl rfl rfl rfl ha18 (by decide) (by decide) (Nat.le_of_ble_eq_true rfl) (Nat.le_of_ble_eq_true rfl) dX4_loadFrom_18 (fun H locs hP hD hS => ?_)
    have hw : Wd D A s (wE q cI cZ (sA σ 11 (va_cpy (σ.2 13) (σ.2 11) (Int.toNat x2) 0 7))) H locs := wdaE_11 hP hD hS
    obtain ⟨σ18, e18, hf⟩ := nm_s hf
    replace hf := bt_s hf
    rw [← e18] at hw
    refine lv_aload_n hx hb dX4_loadFrom_21 rfl (lv_at hl 1 rfl) ?_
    refine lv_iload_n hx hb dX4_loadFrom_22 rfl (lv_at hl 2 rfl) ?_
    refine lv_bipush (v := zI 7) hx hb dX4_loadFrom_23 (by decide +kernel) ?_
    refine zv_iadd hx hb dX4_loadFrom_25 ?_
    refine lv_aload_n hx hb dX4_loadFrom_26 rfl (lv_at hl 0 rfl) ?_
    refine va_get (D := D) (ci := 4) (v := .ref (q 17)) (C := RX4) (T := TX4) (N := 9) hx hb hts (fun _ h => List.mem_cons_of_mem _ (List.mem_append_right _ h)) hown hK hw.1 15 rfl rfl 2 (by decide) (hts (.fieldLink RX4 19 "EggThrones$Morning" "boiled" "[I") (List.mem_of_getElem? (i := 6) rfl)) (fun _ h9 => h9) rfl dX4_loadFrom_27 ?_
    refine lv_iconst (v := zI 0) hx hb dX4_loadFrom_30 rfl ?_
    refine lv_bipush (v := zI 7) hx hb dX4_loadFrom_31 (by decide +kernel) ?_
    obtain ⟨ha33, hf⟩ := gd_s hf
    refine zv_copyi (D := D) (rest := []) hx hb (hml.trans hl.1.symm) hown (hts (.methodLink RX4 106 arraycopyName) (List.mem_of_getElem? (i := 2) rfl)) (hts (.native arraycopyName) (List.mem_of_getElem? (i := 3) rfl)) (hts (.static arraycopyName) (List.mem_of_getElem? (i := 4) rfl)) (hts (.initialized "java/lang/System") (List.mem_of_getElem? (i := 5) rfl)) hK hw.1 hw.2.1 hw.2.2 19 17 0 0 rfl rfl rfl rfl ha33 (by decide) (by decide) (Nat.le_of_ble_eq_true rfl) (Nat.le_of_ble_eq_true rfl) dX4_loadFrom_33 (fun H locs hP hD hS => ?_)
    have hw : Wd D A s (wE q cI cZ (sA σ18 12 (va_cpy (σ18.2 13) (σ18.2 12) (Int.toNat (x2 + 7)) 0 7))) H locs := wdaE_12 hP hD hS
    obtain ⟨σ33, e33, hf⟩ := nm_s hf
    replace hf := bt_s hf
    rw [← e33] at hw
    refine lv_iload_n hx hb dX4_loadFrom_36 rfl (lv_at hl 2 rfl) ?_
    refine lv_bipush (v := zI 14) hx hb dX4_loadFrom_37 (by decide +kernel) ?_
    refine zv_iadd hx hb dX4_loadFrom_39 ?_
    refine lv_istore_n (lv' := [(3, .int (zI (x2 + 14))), (0, .ref (q 15)), (1, .ref (q 19)), (2, .int (zI x2))]) hx hb dX4_loadFrom_40 rfl hl (by decide) rfl (fun ls hl => ?_)
    refine lv_aload_n hx hb dX4_loadFrom_41 rfl (lv_at hl 1 rfl) ?_
    refine lv_aload_n hx hb dX4_loadFrom_42 rfl (lv_at hl 2 rfl) ?_
    refine lv_iload_n hx hb dX4_loadFrom_43 rfl (lv_at hl 0 rfl) ?_
    obtain ⟨hi44, hf⟩ := gd_s hf
    refine zv_iald (D := D) hx hb hK hw.1 19 0 rfl rfl hi44 (by decide) dX4_loadFrom_44 ?_
    refine va_put (D := D) (ci := 4) (v := .int (zI (σ33.2 13 (Int.toNat (x2 + 14))))) (ty := .int) (C := RX4) (T := TX4) (N := 9) hx hb hts (fun _ h => List.mem_cons_of_mem _ (List.mem_append_right _ h)) tyX4 tyX4_ok nmX4 hown hK hw.1 hw.2.1 hw.2.2 15 rfl rfl 3 (by decide) (hts (.fieldLink RX4 22 "EggThrones$Morning" "king" "I") (List.mem_of_getElem? (i := 7) rfl)) (fun _ h9 => h9) rfl (by decide +kernel) rfl rfl (Nat.le_of_ble_eq_true rfl) dX4_loadFrom_45 (fun H locs hP hD hS => ?_)
    have hw : Wd D A s (wE q cI cZ (sI σ33 16 (σ33.2 13 (Int.toNat (x2 + 14))))) H locs := wdiE_16 hP hD hS
    obtain ⟨σ45, e45, hf⟩ := nm_s hf
    replace hf := bt_s hf
    rw [← e45] at hw
    refine lv_aload_n hx hb dX4_loadFrom_48 rfl (lv_at hl 1 rfl) ?_
    refine lv_aload_n hx hb dX4_loadFrom_49 rfl (lv_at hl 2 rfl) ?_
    refine lv_iload_n hx hb dX4_loadFrom_50 rfl (lv_at hl 0 rfl) ?_
    refine lv_iconst (v := zI 1) hx hb dX4_loadFrom_51 rfl ?_
    refine zv_iadd hx hb dX4_loadFrom_52 ?_
    obtain ⟨hi53, hf⟩ := gd_s hf
    refine zv_iald (D := D) hx hb hK hw.1 19 0 rfl rfl hi53 (by decide) dX4_loadFrom_53 ?_
    refine va_put (D := D) (ci := 4) (v := .int (zI (σ45.2 13 (Int.toNat ((x2 + 14) + 1))))) (ty := .int) (C := RX4) (T := TX4) (N := 9) hx hb hts (fun _ h => List.mem_cons_of_mem _ (List.mem_append_right _ h)) tyX4 tyX4_ok nmX4 hown hK hw.1 hw.2.1 hw.2.2 15 rfl rfl 4 (by decide) (hts (.fieldLink RX4 26 "EggThrones$Morning" "left" "I") (List.mem_of_getElem? (i := 8) rfl)) (fun _ h9 => h9) rfl (by decide +kernel) rfl rfl (Nat.le_of_ble_eq_true rfl) dX4_loadFrom_54 (fun H locs hP hD hS => ?_)
    have hw : Wd D A s (wE q cI cZ (sI σ45 17 (σ45.2 13 (Int.toNat ((x2 + 14) + 1))))) H locs := wdiE_17 hP hD hS
    obtain ⟨σ54, e54, hf⟩ := nm_s hf
    replace hf := bt_s hf
    rw [← e54] at hw
    refine lv_aload_n hx hb dX4_loadFrom_57 rfl (lv_at hl 1 rfl) ?_
    refine lv_aload_n hx hb dX4_loadFrom_58 rfl (lv_at hl 2 rfl) ?_
    refine lv_iload_n hx hb dX4_loadFrom_59 rfl (lv_at hl 0 rfl) ?_
    refine lv_iconst (v := zI 2) hx hb dX4_loadFrom_60 rfl ?_
    refine zv_iadd hx hb dX4_loadFrom_61 ?_
    obtain ⟨hi62, hf⟩ := gd_s hf
    refine zv_iald (D := D) hx hb hK hw.1 19 0 rfl rfl hi62 (by decide) dX4_loadFrom_62 ?_
    refine va_put (D := D) (ci := 4) (v := .int (zI (σ54.2 13 (Int.toNat ((x2 + 14) + 2))))) (ty := .int) (C := RX4) (T := TX4) (N := 9) hx hb hts (fun _ h => List.mem_cons_of_mem _ (List.mem_append_right _ h)) tyX4 tyX4_ok nmX4 hown hK hw.1 hw.2.1 hw.2.2 15 rfl rfl 5 (by decide) (hts (.fieldLink RX4 29 "EggThrones$Morning" "soldiers" "I") (List.mem_of_getElem? (i := 9) rfl)) (fun _ h9 => h9) rfl (by decide +kernel) rfl rfl (Nat.le_of_ble_eq_true rfl) dX4_loadFrom_63 (fun H locs hP hD hS => ?_)
    have hw : Wd D A s (wE q cI cZ (sI σ54 18 (σ54.2 13 (Int.toNat ((x2 + 14) + 2))))) H locs := wdiE_18 hP hD hS
    obtain ⟨σ63, e63, hf⟩ := nm_s hf
    replace hf := bt_s hf
    rw [← e63] at hw
    refine lv_aload_n hx hb dX4_loadFrom_66 rfl (lv_at hl 1 rfl) ?_
    refine lv_aload_n hx hb dX4_loadFrom_67 rfl (lv_at hl 2 rfl) ?_
    refine lv_iload_n hx hb dX4_loadFrom_68 rfl (lv_at hl 0 rfl) ?_
    refine lv_iconst (v := zI 3) hx hb dX4_loadFrom_69 rfl ?_
    refine zv_iadd hx hb dX4_loadFrom_70 ?_
    obtain ⟨hi71, hf⟩ := gd_s hf
    refine zv_iald (D := D) hx hb hK hw.1 19 0 rfl rfl hi71 (by decide) dX4_loadFrom_71 ?_
    refine va_put (D := D) (ci := 4) (v := .int (zI (σ63.2 13 (Int.toNat ((x2 + 14) + 3))))) (ty := .int) (C := RX4) (T := TX4) (N := 9) hx hb hts (fun _ h => List.mem_cons_of_mem _ (List.mem_append_right _ h)) tyX4 tyX4_ok nmX4 hown hK hw.1 hw.2.1 hw.2.2 15 rfl rfl 6 (by decide) (hts (.fieldLink RX4 32 "EggThrones$Morning" "minutes" "I") (List.mem_of_getElem? (i := 10) rfl)) (fun _ h9 => h9) rfl (by decide +kernel) rfl rfl (Nat.le_of_ble_eq_true rfl) dX4_loadFrom_72 (fun H locs hP hD hS => ?_)
    have hw : Wd D A s (wE q cI cZ (sI σ63 19 (σ63.2 13 (Int.toNat ((x2 + 14) + 3))))) H locs := wdiE_19 hP hD hS
    obtain ⟨σ72, e72, hf⟩ := nm_s hf
    replace hf := bt_s hf
    rw [← e72] at hw
    refine lv_aload_n hx hb dX4_loadFrom_75 rfl (lv_at hl 1 rfl) ?_
    refine lv_aload_n hx hb dX4_loadFrom_76 rfl (lv_at hl 2 rfl) ?_
    refine lv_iload_n hx hb dX4_loadFrom_77 rfl (lv_at hl 0 rfl) ?_
    refine lv_iconst (v := zI 4) hx hb dX4_loadFrom_78 rfl ?_
    refine zv_iadd hx hb dX4_loadFrom_79 ?_
    obtain ⟨hi80, hf⟩ := gd_s hf
    refine zv_iald (D := D) hx hb hK hw.1 19 0 rfl rfl hi80 (by decide) dX4_loadFrom_80 ?_
    refine va_put (D := D) (ci := 4) (v := .int (zI (σ72.2 13 (Int.toNat ((x2 + 14) + 4))))) (ty := .int) (C := RX4) (T := TX4) (N := 9) hx hb hts (fun _ h => List.mem_cons_of_mem _ (List.mem_append_right _ h)) tyX4 tyX4_ok nmX4 hown hK hw.1 hw.2.1 hw.2.2 15 rfl rfl 7 (by decide) (hts (.fieldLink RX4 35 "EggThrones$Morning" "reigned" "I") (List.mem_of_getElem? (i := 11) rfl)) (fun _ h9 => h9) rfl (by decide +kernel) rfl rfl (Nat.le_of_ble_eq_true rfl) dX4_loadFrom_81 (fun H locs hP hD hS => ?_)
    have hw : Wd D A s (wE q cI cZ (sI σ72 20 (σ72.2 13 (Int.toNat ((x2 + 14) + 4))))) H locs := wdiE_20 hP hD hS
    obtain ⟨σ81, e81, hf⟩ := nm_s hf
    replace hf := bt_s hf
    rw [← e81] at hw
    refine lv_aload_n hx hb dX4_loadFrom_84 rfl (lv_at hl 1 rfl) ?_
    refine lv_aload_n hx hb dX4_loadFrom_85 rfl (lv_at hl 2 rfl) ?_
    refine lv_iload_n hx hb dX4_loadFrom_86 rfl (lv_at hl 0 rfl) ?_
    refine lv_iconst (v := zI 5) hx hb dX4_loadFrom_87 rfl ?_
    refine zv_iadd hx hb dX4_loadFrom_88 ?_
    obtain ⟨hi89, hf⟩ := gd_s hf
    refine zv_iald (D := D) hx hb hK hw.1 19 0 rfl rfl hi89 (by decide) dX4_loadFrom_89 ?_
    refine va_put (D := D) (ci := 4) (v := .int (zI (σ81.2 13 (Int.toNat ((x2 + 14) + 5))))) (ty := .int) (C := RX4) (T := TX4) (N := 9) hx hb hts (fun _ h => List.mem_cons_of_mem _ (List.mem_append_right _ h)) tyX4 tyX4_ok nmX4 hown hK hw.1 hw.2.1 hw.2.2 15 rfl rfl 8 (by decide) (hts (.fieldLink RX4 38 "EggThrones$Morning" "scraped" "I") (List.mem_of_getElem? (i := 12) rfl)) (fun _ h9 => h9) rfl (by decide +kernel) rfl rfl (Nat.le_of_ble_eq_true rfl) dX4_loadFrom_90 (fun H locs hP hD hS => ?_)
    have hw : Wd D A s (wE q cI cZ (sI σ81 21 (σ81.2 13 (Int.toNat ((x2 + 14) + 5))))) H locs := wdiE_21 hP hD hS
    obtain ⟨σ90, e90, hf⟩ := nm_s hf
    replace hf := bt_s hf
    rw [← e90] at hw
    cases hf
    exact hret H locs ls 93 dX4_loadFrom_93 hw
  · rw [if_pos c5] at hf
    cases hf
    exact hret H locs ls 8 dX4_loadFrom_8 hw
set_option maxHeartbeats 4000000 in
set_option maxRecDepth 100000 in
theorem tX4_loadFrom_a19 {l : Launch} {D : va_G} {A : Nat → Prop} {cI cZ : ClassId} {q : Nat → Nat} {σ : St} {x2 : Int} {τ : St} (hf : pX4_loadFrom_a19 σ x2 = some τ) : Met l yX4_loadFrom wsX4_loadFrom rmX4_loadFrom_a19 (va_Pc [.ref (q 15), .ref (q 19), .int (zI x2)] (CX D (TY cI cZ) A (wE q cI cZ σ))) (QV D (TY cI cZ) A (wE q cI cZ τ)) 0 0 A := by
  refine opn (cc := cX4_loadFrom) (maxL := 4) (ret := none) (by decide) rfl (Nat.le_of_ble_eq_true rfl) (fun p e s m below meth c C ls hw hl => ?_)
  have hl : lv_has ls 4 [(0, .ref (q 15)), (1, .ref (q 19)), (2, .int (zI x2))] := hl
  rw [pX4_loadFrom_a19] at hf
  exact wX4_loadFrom_a19_0 C (rtV C) σ x2 _ _ ls hw (lv_sub hl [0, 1, 2] rfl) hf
abbrev rmX5_bringBack : Room := { frames := 2, cells := 0, slots := 0, locals := 83 }
set_option maxHeartbeats 4000000 in
set_option maxRecDepth 100000 in
theorem wX5_bringBack_0 {p : Program} {l : Launch} {e : Env} {s : State} {m : MethodId} {args : Array Value} {below : List Frame} {meth : Method} {c : Code} {D : va_G} {A : Nat → Prop} {q : Nat → Nat} {cI cZ : ClassId} {Q : State → Prop} {r : Int} {τ : St} (C : Cx p s m args meth c D (TY cI cZ) cX5_bringBack (some .boolean) 3 wsX5_bringBack RX5) (hret : RtZ p l e rmX5_bringBack s m args below meth c D A cX5_bringBack Q (wE q cI cZ τ) (zI r)) :
    ∀ (σ : St) (H : Heap) (locs : List Loc) (ls : Array Slot), Wd D A s (wE q cI cZ σ) H locs → lv_has ls 3 [(0, .ref (q 18)), (1, .ref (q 15))] → pX5_bringBack_0 σ = some (r, τ) → W p l e rmX5_bringBack s m args below meth c H locs 0 0 Q (F0 m 0 ls []) := by
  obtain ⟨hx, hb, hr, hml, hown, hts, hlk, hK, hN⟩ := id C
  intro σ H locs ls hw hl hf
  rw [pX5_bringBack_0] at hf
  refine lv_aload_n hx hb dX5_bringBack_0 rfl (lv_at hl 0 rfl) ?_
  refine va_get (D := D) (ci := 5) (v := .int (zI (σ.1 23))) (C := RX5) (T := TX5) (N := 3) hx hb hts (fun _ h => List.mem_cons_of_mem _ (List.mem_append_left _ (List.mem_append_right _ h))) hown hK hw.1 18 rfl rfl 2 (by decide) (hts (.fieldLink RX5 21 "EggThrones$Past" "count" "I") (List.mem_of_getElem? (i := 1) rfl)) (fun _ h9 => h9) rfl dX5_bringBack_1 ?_
  obtain ⟨hg4, hf⟩ := gd_s hf
  refine zv_if_gt (tgt := 9) hx hb hg4 dX5_bringBack_4 (by decide) (fun (c4 : 0 < (σ.1 23)) => ?_) (fun (c4 : ¬ (0 < (σ.1 23))) => ?_)
  · rw [if_pos c4] at hf
    refine lv_aload_n hx hb dX5_bringBack_9 rfl (lv_at hl 0 rfl) ?_
    refine lv_dup hx hb dX5_bringBack_10 rfl ?_
    refine va_get (D := D) (ci := 5) (v := .int (zI (σ.1 23))) (C := RX5) (T := TX5) (N := 3) hx hb hts (fun _ h => List.mem_cons_of_mem _ (List.mem_append_left _ (List.mem_append_right _ h))) hown hK hw.1 18 rfl rfl 2 (by decide) (hts (.fieldLink RX5 21 "EggThrones$Past" "count" "I") (List.mem_of_getElem? (i := 1) rfl)) (fun _ h9 => h9) rfl dX5_bringBack_11 ?_
    refine lv_iconst (v := zI 1) hx hb dX5_bringBack_14 rfl ?_
    refine zv_isub hx hb dX5_bringBack_15 ?_
    refine va_put (D := D) (ci := 5) (v := .int (zI ((σ.1 23) - 1))) (ty := .int) (C := RX5) (T := TX5) (N := 3) hx hb hts (fun _ h => List.mem_cons_of_mem _ (List.mem_append_left _ (List.mem_append_right _ h))) tyX5 tyX5_ok nmX5 hown hK hw.1 hw.2.1 hw.2.2 18 rfl rfl 2 (by decide) (hts (.fieldLink RX5 21 "EggThrones$Past" "count" "I") (List.mem_of_getElem? (i := 1) rfl)) (fun _ h9 => h9) rfl (by decide +kernel) rfl rfl (Nat.le_of_ble_eq_true rfl) dX5_bringBack_16 (fun H locs hP hD hS => ?_)
    have hw : Wd D A s (wE q cI cZ (sI σ 23 ((σ.1 23) - 1))) H locs := wdiE_23 hP hD hS
    obtain ⟨σ16, e16, hf⟩ := nm_s hf
    replace hf := bt_s hf
    rw [← e16] at hw
    refine lv_aload_n hx hb dX5_bringBack_19 rfl (lv_at hl 0 rfl) ?_
    refine va_get (D := D) (ci := 5) (v := .int (zI (σ16.1 22))) (C := RX5) (T := TX5) (N := 3) hx hb hts (fun _ h => List.mem_cons_of_mem _ (List.mem_append_left _ (List.mem_append_right _ h))) hown hK hw.1 18 rfl rfl 1 (by decide) (hts (.fieldLink RX5 17 "EggThrones$Past" "oldest" "I") (List.mem_of_getElem? (i := 2) rfl)) (fun _ h9 => h9) rfl dX5_bringBack_20 ?_
    refine lv_aload_n hx hb dX5_bringBack_23 rfl (lv_at hl 0 rfl) ?_
    refine va_get (D := D) (ci := 5) (v := .int (zI (σ16.1 23))) (C := RX5) (T := TX5) (N := 3) hx hb hts (fun _ h => List.mem_cons_of_mem _ (List.mem_append_left _ (List.mem_append_right _ h))) hown hK hw.1 18 rfl rfl 2 (by decide) (hts (.fieldLink RX5 21 "EggThrones$Past" "count" "I") (List.mem_of_getElem? (i := 1) rfl)) (fun _ h9 => h9) rfl dX5_bringBack_24 ?_
    refine zv_iadd hx hb dX5_bringBack_27 ?_
    refine lv_bipush (v := zI 20) hx hb dX5_bringBack_28 (by decide +kernel) ?_
    obtain ⟨hz30, hf⟩ := gd_s hf
    refine zv_irem hx hb hz30 dX5_bringBack_30 ?_
    refine lv_istore_n (lv' := [(2, .int (zI (((σ16.1 22) + (σ16.1 23)) % 20))), (0, .ref (q 18)), (1, .ref (q 15))]) hx hb dX5_bringBack_31 rfl hl (by decide) rfl (fun ls hl => ?_)
    refine lv_aload_n hx hb dX5_bringBack_32 rfl (lv_at hl 2 rfl) ?_
    refine lv_aload_n hx hb dX5_bringBack_33 rfl (lv_at hl 1 rfl) ?_
    refine va_get (D := D) (ci := 5) (v := .ref (q 19)) (C := RX5) (T := TX5) (N := 3) hx hb hts (fun _ h => List.mem_cons_of_mem _ (List.mem_append_left _ (List.mem_append_right _ h))) hown hK hw.1 18 rfl rfl 0 (by decide) (hts (.fieldLink RX5 11 "EggThrones$Past" "rows" "[I") (List.mem_of_getElem? (i := 3) rfl)) (fun _ h9 => h9) rfl dX5_bringBack_34 ?_
    refine lv_iload_n hx hb dX5_bringBack_37 rfl (lv_at hl 0 rfl) ?_
    refine lv_bipush (v := zI 20) hx hb dX5_bringBack_38 (by decide +kernel) ?_
    refine zv_imul hx hb dX5_bringBack_40 ?_
    obtain ⟨σ41, h41, hf⟩ := bd_s hf
    replace hf := bt_s hf
    refine gVv (As := [.ref (q 19), .int (zI ((((σ16.1 22) + (σ16.1 23)) % 20) * 20))]) (rest := []) C hw (tX4_loadFrom_a19 h41) (cwV 2 hts gX5_bringBack_X4_loadFrom rfl rfl rfl (by decide +kernel) ⟨Nat.le_of_ble_eq_true rfl, Nat.le_of_ble_eq_true rfl⟩) 4 15 rfl rfl rfl hl.1 rfl (Nat.le_of_ble_eq_true rfl) dX5_bringBack_41 (fun H locs hw => ?_)
    refine lv_iconst (v := zI 1) hx hb dX5_bringBack_44 rfl ?_
    cases hf
    exact hret H locs ls 45 dX5_bringBack_45 (by decide +kernel) hw
  · rw [if_neg c4] at hf
    refine lv_iconst (v := zI 0) hx hb dX5_bringBack_7 rfl ?_
    cases hf
    exact hret H locs ls 8 dX5_bringBack_8 (by decide +kernel) hw
set_option maxHeartbeats 4000000 in
set_option maxRecDepth 100000 in
theorem tX5_bringBack {l : Launch} {D : va_G} {A : Nat → Prop} {cI cZ : ClassId} {q : Nat → Nat} {σ : St} {r : Int} {τ : St} (hf : pX5_bringBack σ = some (r, τ)) : Met l yX5_bringBack wsX5_bringBack rmX5_bringBack (va_Pc [.ref (q 18), .ref (q 15)] (CX D (TY cI cZ) A (wE q cI cZ σ))) (QI D (TY cI cZ) A (wE q cI cZ τ) (zI r)) 0 0 A := by
  refine opn (cc := cX5_bringBack) (maxL := 3) (ret := (some .boolean)) (by decide) rfl (Nat.le_of_ble_eq_true rfl) (fun p e s m below meth c C ls hw hl => ?_)
  have hl : lv_has ls 3 [(0, .ref (q 18)), (1, .ref (q 15))] := hl
  rw [pX5_bringBack] at hf
  exact wX5_bringBack_0 C (rtZ C) σ _ _ ls hw (lv_sub hl [0, 1] rfl) hf
abbrev rmX10_undo : Room := { frames := 3, cells := 0, slots := 0, locals := 105 }
set_option maxHeartbeats 4000000 in
set_option maxRecDepth 100000 in
theorem wX10_undo_0 {p : Program} {l : Launch} {e : Env} {s : State} {m : MethodId} {args : Array Value} {below : List Frame} {meth : Method} {c : Code} {D : va_G} {A : Nat → Prop} {q : Nat → Nat} {cI cZ : ClassId} {Q : State → Prop} {r : Int} {τ : St} (C : Cx p s m args meth c D (TY cI cZ) cX10_undo (some .int) 1 wsX10_undo RX10) (hret : RtI p l e rmX10_undo s m args below meth c D A cX10_undo Q (wE q cI cZ τ) (zI r)) :
    ∀ (σ : St) (H : Heap) (locs : List Loc) (ls : Array Slot), Wd D A s (wE q cI cZ σ) H locs → lv_has ls 1 [(0, .ref (q 0))] → pX10_undo_0 σ = some (r, τ) → W p l e rmX10_undo s m args below meth c H locs 0 0 Q (F0 m 0 ls []) := by
  obtain ⟨hx, hb, hr, hml, hown, hts, hlk, hK, hN⟩ := id C
  intro σ H locs ls hw hl hf
  rw [pX10_undo_0] at hf
  refine lv_aload_n hx hb dX10_undo_0 rfl (lv_at hl 0 rfl) ?_
  refine va_get (D := D) (ci := 10) (v := .ref (q 18)) (C := RX10) (T := TX10) (N := 13) hx hb hts (fun _ h => List.mem_cons_of_mem _ (List.mem_append_left _ (List.mem_append_left _ (List.mem_append_right _ h)))) hown hK hw.1 0 rfl rfl 4 (by decide) (hts (.fieldLink RX10 38 "EggThrones" "past" "LEggThrones$Past;") (List.mem_of_getElem? (i := 1) rfl)) (fun _ h9 => h9) rfl dX10_undo_1 ?_
  refine lv_aload_n hx hb dX10_undo_4 rfl (lv_at hl 0 rfl) ?_
  refine va_get (D := D) (ci := 10) (v := .ref (q 15)) (C := RX10) (T := TX10) (N := 13) hx hb hts (fun _ h => List.mem_cons_of_mem _ (List.mem_append_left _ (List.mem_append_left _ (List.mem_append_right _ h)))) hown hK hw.1 0 rfl rfl 3 (by decide) (hts (.fieldLink RX10 31 "EggThrones" "now" "LEggThrones$Morning;") (List.mem_of_getElem? (i := 2) rfl)) (fun _ h9 => h9) rfl dX10_undo_5 ?_
  obtain ⟨⟨r8, σ8⟩, h8, hf⟩ := bd_s hf
  have hf := hf2_s hf
  refine gVi (As := [.ref (q 15)]) (rest := []) C hw (tX5_bringBack h8) (cwV 1 hts gX10_undo_X5_bringBack rfl rfl rfl (by decide +kernel) ⟨Nat.le_of_ble_eq_true rfl, Nat.le_of_ble_eq_true rfl⟩) 5 18 rfl rfl rfl hl.1 rfl (Nat.le_of_ble_eq_true rfl) dX10_undo_8 (fun H locs hw => ?_)
  obtain ⟨hg11, hf⟩ := gd_s hf
  refine zv_if_eq (tgt := 24) hx hb hg11 dX10_undo_11 (by decide) (fun (c11 : r8 = 0) => ?_) (fun (c11 : ¬ (r8 = 0)) => ?_)
  · rw [if_pos c11] at hf
    refine zv_ldc hx hb (-1000000003) (by decide +kernel) hown (hts (.constant RX10 219 (-1000000003)) (List.mem_of_getElem? (i := 3) rfl)) dX10_undo_24 ?_
    cases hf
    exact hret H locs ls 26 dX10_undo_26 hw
  · rw [if_neg c11] at hf
    refine lv_aload_n hx hb dX10_undo_14 rfl (lv_at hl 0 rfl) ?_
    refine va_get (D := D) (ci := 10) (v := .ref (q 18)) (C := RX10) (T := TX10) (N := 13) hx hb hts (fun _ h => List.mem_cons_of_mem _ (List.mem_append_left _ (List.mem_append_left _ (List.mem_append_right _ h)))) hown hK hw.1 0 rfl rfl 4 (by decide) (hts (.fieldLink RX10 38 "EggThrones" "past" "LEggThrones$Past;") (List.mem_of_getElem? (i := 1) rfl)) (fun _ h9 => h9) rfl dX10_undo_15 ?_
    refine va_getN (D := D) (ci := 5) (v := .int (zI (σ8.1 23))) (C := RX5) (T := TX5) (N := 3) hx hb hts (fun _ h => List.mem_cons_of_mem _ (List.mem_append_left _ (List.mem_append_right _ h))) hown hK hw.1 18 rfl rfl 2 (by decide) (va_Nw.use rfl (hN (.fieldLinkNest "EggThrones" 171 "EggThrones$Past" "count" "I" "EggThrones") (by decide +kernel))) (fun _ h9 => h9) rfl dX10_undo_18 ?_
    refine lv_goto (tgt := 26) hx hb dX10_undo_21 (by decide) ?_
    cases hf
    exact hret H locs ls 26 dX10_undo_26 hw
set_option maxHeartbeats 4000000 in
set_option maxRecDepth 100000 in
theorem tX10_undo {l : Launch} {D : va_G} {A : Nat → Prop} {cI cZ : ClassId} {q : Nat → Nat} {σ : St} {r : Int} {τ : St} (hf : pX10_undo σ = some (r, τ)) : Met l yX10_undo wsX10_undo rmX10_undo (va_Pc [.ref (q 0)] (CX D (TY cI cZ) A (wE q cI cZ σ))) (QI D (TY cI cZ) A (wE q cI cZ τ) (zI r)) 0 0 A := by
  refine opn (cc := cX10_undo) (maxL := 1) (ret := (some .int)) (by decide) rfl (Nat.le_of_ble_eq_true rfl) (fun p e s m below meth c C ls hw hl => ?_)
  have hl : lv_has ls 1 [(0, .ref (q 0))] := hl
  rw [pX10_undo] at hf
  exact wX10_undo_0 C (rtI C) σ _ _ ls hw (lv_sub hl [0] rfl) hf
abbrev rmX11_undo : Room := { frames := 0, cells := 0, slots := 0, locals := 0 }
set_option maxHeartbeats 4000000 in
set_option maxRecDepth 100000 in
theorem wX11_undo_22 {p : Program} {l : Launch} {e : Env} {s : State} {m : MethodId} {args : Array Value} {below : List Frame} {meth : Method} {c : Code} {D : va_G} {A : Nat → Prop} {q : Nat → Nat} {cI cZ : ClassId} {Q : State → Prop} {r : Int} {τ : St} (C : Cx p s m args meth c D (TY cI cZ) cX11_undo (some .int) 2 wsX11_undo RX11) (hret : RtI p l e rmX11_undo s m args below meth c D A cX11_undo Q (wM q cI cZ τ) (zI r)) :
    ∀ (n : Nat) (σ : St) (x1 : Int) (H : Heap) (locs : List Loc) (ls : Array Slot), Wd D A s (wM q cI cZ σ) H locs → lv_has ls 2 [(0, .ref (q 0)), (1, .int (zI x1))] → pX11_undo_22 n σ x1 = some (r, τ) → W p l e rmX11_undo s m args below meth c H locs 0 0 Q (F0 m 22 ls []) := by
  obtain ⟨hx, hb, hr, hml, hown, hts, hlk, hK, hN⟩ := id C
  intro n
  induction n with
  | zero =>
    intro σ x1 H locs ls hw hl hf
    exact absurd (show (none : Option (Int × St)) = some (r, τ) from hf) (by simp)
  | succ n ih =>
    intro σ x1 H locs ls hw hl hf
    rw [pX11_undo_22] at hf
    refine lv_iload_n hx hb dX11_undo_22 rfl (lv_at hl 1 rfl) ?_
    refine lv_bipush (v := zI 19) hx hb dX11_undo_23 (by decide +kernel) ?_
    obtain ⟨hg25, hf⟩ := gd_s hf
    refine zv_icmp_ge (tgt := 54) hx hb ⟨hg25, by decide⟩ dX11_undo_25 (by decide) (fun (c25 : 19 ≤ x1) => ?_) (fun (c25 : ¬ (19 ≤ x1)) => ?_)
    · rw [if_pos c25] at hf
      refine lv_aload_n hx hb dX11_undo_54 rfl (lv_at hl 0 rfl) ?_
      refine va_get (D := D) (ci := 11) (v := .int (zI (σ.1 12))) (C := RX11) (T := TX11) (N := 40) hx hb hts (fun _ h => List.mem_cons_of_mem _ (List.mem_append_right _ h)) hown hK hw.1 0 rfl rfl 24 (by decide) (hts (.fieldLink RX11 168 "EggThronesModel" "undos" "I") (List.mem_of_getElem? (i := 1) rfl)) (fun _ h9 => h9) rfl dX11_undo_55 ?_
      cases hf
      exact hret H locs ls 58 dX11_undo_58 hw
    · rw [if_neg c25] at hf
      refine lv_aload_n hx hb dX11_undo_28 rfl (lv_at hl 0 rfl) ?_
      refine va_get (D := D) (ci := 11) (v := .ref (q 6)) (C := RX11) (T := TX11) (N := 40) hx hb hts (fun _ h => List.mem_cons_of_mem _ (List.mem_append_right _ h)) hown hK hw.1 0 rfl rfl 9 (by decide) (hts (.fieldLink RX11 25 "EggThronesModel" "now" "[I") (List.mem_of_getElem? (i := 3) rfl)) (fun _ h9 => h9) rfl dX11_undo_29 ?_
      refine lv_iload_n hx hb dX11_undo_32 rfl (lv_at hl 1 rfl) ?_
      refine lv_aload_n hx hb dX11_undo_33 rfl (lv_at hl 0 rfl) ?_
      refine va_get (D := D) (ci := 11) (v := .ref (q 13)) (C := RX11) (T := TX11) (N := 40) hx hb hts (fun _ h => List.mem_cons_of_mem _ (List.mem_append_right _ h)) hown hK hw.1 0 rfl rfl 25 (by decide) (hts (.fieldLink RX11 50 "EggThronesModel" "past" "[I") (List.mem_of_getElem? (i := 4) rfl)) (fun _ h9 => h9) rfl dX11_undo_34 ?_
      refine lv_bipush (v := zI 19) hx hb dX11_undo_37 (by decide +kernel) ?_
      refine lv_aload_n hx hb dX11_undo_39 rfl (lv_at hl 0 rfl) ?_
      refine va_get (D := D) (ci := 11) (v := .int (zI (σ.1 12))) (C := RX11) (T := TX11) (N := 40) hx hb hts (fun _ h => List.mem_cons_of_mem _ (List.mem_append_right _ h)) hown hK hw.1 0 rfl rfl 24 (by decide) (hts (.fieldLink RX11 168 "EggThronesModel" "undos" "I") (List.mem_of_getElem? (i := 1) rfl)) (fun _ h9 => h9) rfl dX11_undo_40 ?_
      refine zv_imul hx hb dX11_undo_43 ?_
      refine lv_iload_n hx hb dX11_undo_44 rfl (lv_at hl 1 rfl) ?_
      refine zv_iadd hx hb dX11_undo_45 ?_
      obtain ⟨hi46, hf⟩ := gd_s hf
      refine zv_iald (D := D) hx hb hK hw.1 13 0 rfl rfl hi46 (by decide) dX11_undo_46 ?_
      obtain ⟨hi47, hf⟩ := gd_s hf
      refine zv_iast (D := D) hx hb hK hw.1 hw.2.1 hw.2.2 6 0 rfl rfl hi47 (by decide) dX11_undo_47 (fun H locs hP hD hS => ?_)
      have hw : Wd D A s (wM q cI cZ (sA σ 5 (va_up (σ.2 5) (Int.toNat x1) (σ.2 12 (Int.toNat ((19 * (σ.1 12)) + x1)))))) H locs := wdaM_5 hP hD hS
      obtain ⟨σ47, e47, hf⟩ := nm_s hf
      replace hf := bt_s hf
      rw [← e47] at hw
      refine lv_iinc (v := zI (x1 + 1)) (lv' := [(1, .int (zI (x1 + 1))), (0, .ref (q 0))]) hx hb dX11_undo_48 hl (k := 1) rfl (zI_add _ _) (by decide) rfl (fun ls hl => ?_)
      refine lv_goto (tgt := 22) hx hb dX11_undo_51 (by decide) ?_
      exact ih σ47 (x1 + 1) H locs ls hw (lv_sub hl [1, 0] rfl) hf
set_option maxHeartbeats 4000000 in
set_option maxRecDepth 100000 in
theorem wX11_undo_0 {p : Program} {l : Launch} {e : Env} {s : State} {m : MethodId} {args : Array Value} {below : List Frame} {meth : Method} {c : Code} {D : va_G} {A : Nat → Prop} {q : Nat → Nat} {cI cZ : ClassId} {Q : State → Prop} {r : Int} {τ : St} (C : Cx p s m args meth c D (TY cI cZ) cX11_undo (some .int) 2 wsX11_undo RX11) (hret : RtI p l e rmX11_undo s m args below meth c D A cX11_undo Q (wM q cI cZ τ) (zI r)) :
    ∀ (σ : St) (H : Heap) (locs : List Loc) (ls : Array Slot), Wd D A s (wM q cI cZ σ) H locs → lv_has ls 2 [(0, .ref (q 0))] → pX11_undo_0 σ = some (r, τ) → W p l e rmX11_undo s m args below meth c H locs 0 0 Q (F0 m 0 ls []) := by
  obtain ⟨hx, hb, hr, hml, hown, hts, hlk, hK, hN⟩ := id C
  intro σ H locs ls hw hl hf
  rw [pX11_undo_0] at hf
  refine lv_aload_n hx hb dX11_undo_0 rfl (lv_at hl 0 rfl) ?_
  refine va_get (D := D) (ci := 11) (v := .int (zI (σ.1 12))) (C := RX11) (T := TX11) (N := 40) hx hb hts (fun _ h => List.mem_cons_of_mem _ (List.mem_append_right _ h)) hown hK hw.1 0 rfl rfl 24 (by decide) (hts (.fieldLink RX11 168 "EggThronesModel" "undos" "I") (List.mem_of_getElem? (i := 1) rfl)) (fun _ h9 => h9) rfl dX11_undo_1 ?_
  obtain ⟨hg4, hf⟩ := gd_s hf
  refine zv_if_ne (tgt := 10) hx hb hg4 dX11_undo_4 (by decide) (fun (c4 : ¬ ((σ.1 12) = 0)) => ?_) (fun (c4 : (σ.1 12) = 0) => ?_)
  · rw [if_neg c4] at hf
    refine lv_aload_n hx hb dX11_undo_10 rfl (lv_at hl 0 rfl) ?_
    refine lv_dup hx hb dX11_undo_11 rfl ?_
    refine va_get (D := D) (ci := 11) (v := .int (zI (σ.1 12))) (C := RX11) (T := TX11) (N := 40) hx hb hts (fun _ h => List.mem_cons_of_mem _ (List.mem_append_right _ h)) hown hK hw.1 0 rfl rfl 24 (by decide) (hts (.fieldLink RX11 168 "EggThronesModel" "undos" "I") (List.mem_of_getElem? (i := 1) rfl)) (fun _ h9 => h9) rfl dX11_undo_12 ?_
    refine lv_iconst (v := zI 1) hx hb dX11_undo_15 rfl ?_
    refine zv_isub hx hb dX11_undo_16 ?_
    refine va_put (D := D) (ci := 11) (v := .int (zI ((σ.1 12) - 1))) (ty := .int) (C := RX11) (T := TX11) (N := 40) hx hb hts (fun _ h => List.mem_cons_of_mem _ (List.mem_append_right _ h)) tyX11 tyX11_ok nmX11 hown hK hw.1 hw.2.1 hw.2.2 0 rfl rfl 24 (by decide) (hts (.fieldLink RX11 168 "EggThronesModel" "undos" "I") (List.mem_of_getElem? (i := 1) rfl)) (fun _ h9 => h9) rfl (by decide +kernel) rfl rfl (Nat.le_of_ble_eq_true rfl) dX11_undo_17 (fun H locs hP hD hS => ?_)
    have hw : Wd D A s (wM q cI cZ (sI σ 12 ((σ.1 12) - 1))) H locs := wdiM_12 hP hD hS
    obtain ⟨σ17, e17, hf⟩ := nm_s hf
    replace hf := bt_s hf
    rw [← e17] at hw
    refine lv_iconst (v := zI 0) hx hb dX11_undo_20 rfl ?_
    refine lv_istore_n (lv' := [(1, .int (zI 0)), (0, .ref (q 0))]) hx hb dX11_undo_21 rfl hl (by decide) rfl (fun ls hl => ?_)
    exact wX11_undo_22 C hret FU σ17 0 H locs ls hw (lv_sub hl [1, 0] rfl) hf
  · rw [if_pos c4] at hf
    refine zv_ldc hx hb (-1000000003) (by decide +kernel) hown (hts (.constant RX11 206 (-1000000003)) (List.mem_of_getElem? (i := 2) rfl)) dX11_undo_7 ?_
    cases hf
    exact hret H locs ls 9 dX11_undo_9 hw
set_option maxHeartbeats 4000000 in
set_option maxRecDepth 100000 in
theorem tX11_undo {l : Launch} {D : va_G} {A : Nat → Prop} {cI cZ : ClassId} {q : Nat → Nat} {σ : St} {r : Int} {τ : St} (hf : pX11_undo σ = some (r, τ)) : Met l yX11_undo wsX11_undo rmX11_undo (va_Pc [.ref (q 0)] (CX D (TY cI cZ) A (wM q cI cZ σ))) (QI D (TY cI cZ) A (wM q cI cZ τ) (zI r)) 0 0 A := by
  refine opn (cc := cX11_undo) (maxL := 2) (ret := (some .int)) (by decide) rfl (Nat.le_of_ble_eq_true rfl) (fun p e s m below meth c C ls hw hl => ?_)
  have hl : lv_has ls 2 [(0, .ref (q 0))] := hl
  rw [pX11_undo] at hf
  exact wX11_undo_0 C (rtI C) σ _ _ ls hw (lv_sub hl [0] rfl) hf
abbrev rmX8_setWish_c1 : Room := { frames := 1, cells := 0, slots := 0, locals := 21 }
set_option maxHeartbeats 4000000 in
set_option maxRecDepth 100000 in
theorem wX8_setWish_c1_0 {p : Program} {l : Launch} {e : Env} {s : State} {m : MethodId} {args : Array Value} {below : List Frame} {meth : Method} {c : Code} {D : va_G} {A : Nat → Prop} {q : Nat → Nat} {cI cZ : ClassId} {Q : State → Prop} {τ : St} (C : Cx p s m args meth c D (TY cI cZ) cX8_setWish none 3 wsX8_setWish RX8) (hret : RtV p l e rmX8_setWish_c1 s m args below meth c D A cX8_setWish Q (wE q cI cZ τ)) :
    ∀ (σ : St) (x1 : Int) (x2 : Int) (H : Heap) (locs : List Loc) (ls : Array Slot), Wd D A s (wE q cI cZ σ) H locs → lv_has ls 3 [(0, .ref (q 1)), (1, .int (zI x1)), (2, .int (zI x2))] → pX8_setWish_c1_0 σ x1 x2 = some τ → W p l e rmX8_setWish_c1 s m args below meth c H locs 0 0 Q (F0 m 0 ls []) := by
  obtain ⟨hx, hb, hr, hml, hown, hts, hlk, hK, hN⟩ := id C
  intro σ x1 x2 H locs ls hw hl hf
  rw [pX8_setWish_c1_0] at hf
  refine lv_aload_n hx hb dX8_setWish_0 rfl (lv_at hl 0 rfl) ?_
  refine lv_iload_n hx hb dX8_setWish_1 rfl (lv_at hl 1 rfl) ?_
  obtain ⟨r2, h2, hf⟩ := bd_s hf
  replace hf := bt_s hf
  refine gVi (As := [.int (zI x1)]) (rest := []) C hw (tX8_hasEgg_c1 h2) (cwV 1 hts gX8_setWish_X8_hasEgg rfl rfl rfl (by decide +kernel) ⟨Nat.le_of_ble_eq_true rfl, Nat.le_of_ble_eq_true rfl⟩) 8 1 rfl rfl rfl hl.1 rfl (Nat.le_of_ble_eq_true rfl) dX8_setWish_2 (fun H locs hw => ?_)
  obtain ⟨hg5, hf⟩ := gd_s hf
  refine zv_if_eq (tgt := 15) hx hb hg5 dX8_setWish_5 (by decide) (fun (c5 : r2 = 0) => ?_) (fun (c5 : ¬ (r2 = 0)) => ?_)
  · rw [if_pos c5] at hf
    cases hf
    exact hret H locs ls 15 dX8_setWish_15 hw
  · rw [if_neg c5] at hf
    refine lv_aload_n hx hb dX8_setWish_8 rfl (lv_at hl 0 rfl) ?_
    refine va_get (D := D) (ci := 8) (v := .ref (q 4)) (C := RX8) (T := TX8) (N := 10) hx hb hts (fun _ h => List.mem_cons_of_mem _ (List.mem_append_right _ h)) hown hK hw.1 1 rfl rfl 7 (by decide) (hts (.fieldLink RX8 18 "EggThrones$Table" "wishes" "[I") (List.mem_of_getElem? (i := 1) rfl)) (fun _ h9 => h9) rfl dX8_setWish_9 ?_
    refine lv_iload_n hx hb dX8_setWish_12 rfl (lv_at hl 1 rfl) ?_
    refine lv_iload_n hx hb dX8_setWish_13 rfl (lv_at hl 2 rfl) ?_
    obtain ⟨hi14, hf⟩ := gd_s hf
    refine zv_iast (D := D) hx hb hK hw.1 hw.2.1 hw.2.2 4 0 rfl rfl hi14 (by decide) dX8_setWish_14 (fun H locs hP hD hS => ?_)
    have hw : Wd D A s (wE q cI cZ (sA σ 2 (va_up (σ.2 2) (Int.toNat x1) x2))) H locs := wdaE_2 hP hD hS
    obtain ⟨σ14, e14, hf⟩ := nm_s hf
    replace hf := bt_s hf
    rw [← e14] at hw
    cases hf
    exact hret H locs ls 15 dX8_setWish_15 hw
set_option maxHeartbeats 4000000 in
set_option maxRecDepth 100000 in
theorem tX8_setWish_c1 {l : Launch} {D : va_G} {A : Nat → Prop} {cI cZ : ClassId} {q : Nat → Nat} {σ : St} {x1 : Int} {x2 : Int} {τ : St} (hf : pX8_setWish_c1 σ x1 x2 = some τ) : Met l yX8_setWish wsX8_setWish rmX8_setWish_c1 (va_Pc [.ref (q 1), .int (zI x1), .int (zI x2)] (CX D (TY cI cZ) A (wE q cI cZ σ))) (QV D (TY cI cZ) A (wE q cI cZ τ)) 0 0 A := by
  refine opn (cc := cX8_setWish) (maxL := 3) (ret := none) (by decide) rfl (Nat.le_of_ble_eq_true rfl) (fun p e s m below meth c C ls hw hl => ?_)
  have hl : lv_has ls 3 [(0, .ref (q 1)), (1, .int (zI x1)), (2, .int (zI x2))] := hl
  rw [pX8_setWish_c1] at hf
  exact wX8_setWish_c1_0 C (rtV C) σ x1 x2 _ _ ls hw (lv_sub hl [0, 1, 2] rfl) hf
abbrev rmX10_wish : Room := { frames := 2, cells := 0, slots := 0, locals := 43 }
set_option maxHeartbeats 4000000 in
set_option maxRecDepth 100000 in
theorem wX10_wish_0 {p : Program} {l : Launch} {e : Env} {s : State} {m : MethodId} {args : Array Value} {below : List Frame} {meth : Method} {c : Code} {D : va_G} {A : Nat → Prop} {q : Nat → Nat} {cI cZ : ClassId} {Q : State → Prop} {r : Int} {τ : St} (C : Cx p s m args meth c D (TY cI cZ) cX10_wish (some .int) 4 wsX10_wish RX10) (hret : RtI p l e rmX10_wish s m args below meth c D A cX10_wish Q (wE q cI cZ τ) (zI r)) :
    ∀ (σ : St) (x1 : Int) (x2 : Int) (H : Heap) (locs : List Loc) (ls : Array Slot), Wd D A s (wE q cI cZ σ) H locs → lv_has ls 4 [(0, .ref (q 0)), (1, .int (zI x1)), (2, .int (zI x2))] → pX10_wish_0 σ x1 x2 = some (r, τ) → W p l e rmX10_wish s m args below meth c H locs 0 0 Q (F0 m 0 ls []) := by
  obtain ⟨hx, hb, hr, hml, hown, hts, hlk, hK, hN⟩ := id C
  intro σ x1 x2 H locs ls hw hl hf
  rw [pX10_wish_0] at hf
  refine lv_aload_n hx hb dX10_wish_0 rfl (lv_at hl 0 rfl) ?_
  refine va_get (D := D) (ci := 10) (v := .ref (q 1)) (C := RX10) (T := TX10) (N := 13) hx hb hts (fun _ h => List.mem_cons_of_mem _ (List.mem_append_left _ (List.mem_append_right _ h))) hown hK hw.1 0 rfl rfl 1 (by decide) (hts (.fieldLink RX10 19 "EggThrones" "laid" "LEggThrones$Table;") (List.mem_of_getElem? (i := 1) rfl)) (fun _ h9 => h9) rfl dX10_wish_1 ?_
  refine lv_iload_n hx hb dX10_wish_4 rfl (lv_at hl 1 rfl) ?_
  obtain ⟨r5, h5, hf⟩ := bd_s hf
  replace hf := bt_s hf
  refine gVi (As := [.int (zI x1)]) (rest := []) C hw (tX8_hasEgg_c1 h5) (cwV 1 hts gX10_wish_X8_hasEgg rfl rfl rfl (by decide +kernel) ⟨Nat.le_of_ble_eq_true rfl, Nat.le_of_ble_eq_true rfl⟩) 8 1 rfl rfl rfl hl.1 rfl (Nat.le_of_ble_eq_true rfl) dX10_wish_5 (fun H locs hw => ?_)
  obtain ⟨hg8, hf⟩ := gd_s hf
  refine zv_if_ne (tgt := 14) hx hb hg8 dX10_wish_8 (by decide) (fun (c8 : ¬ (r5 = 0)) => ?_) (fun (c8 : r5 = 0) => ?_)
  · rw [if_neg c8] at hf
    refine lv_iload_n hx hb dX10_wish_14 rfl (lv_at hl 2 rfl) ?_
    refine lv_iconst (v := zI 1) hx hb dX10_wish_15 rfl ?_
    refine lv_aload_n hx hb dX10_wish_16 rfl (lv_at hl 0 rfl) ?_
    refine va_get (D := D) (ci := 10) (v := .ref (q 1)) (C := RX10) (T := TX10) (N := 13) hx hb hts (fun _ h => List.mem_cons_of_mem _ (List.mem_append_left _ (List.mem_append_right _ h))) hown hK hw.1 0 rfl rfl 1 (by decide) (hts (.fieldLink RX10 19 "EggThrones" "laid" "LEggThrones$Table;") (List.mem_of_getElem? (i := 1) rfl)) (fun _ h9 => h9) rfl dX10_wish_17 ?_
    refine va_getN (D := D) (ci := 8) (v := .int (zI (σ.1 4))) (C := RX8) (T := TX8) (N := 10) hx hb hts (fun _ h => List.mem_cons_of_mem _ (List.mem_append_right _ h)) hown hK hw.1 1 rfl rfl 2 (by decide) (va_Nw.use rfl (hN (.fieldLinkNest "EggThrones" 136 "EggThrones$Table" "limit" "I" "EggThrones") (by decide +kernel))) (fun _ h9 => h9) rfl dX10_wish_20 ?_
    obtain ⟨r23, h23, hf⟩ := bd_s hf
    replace hf := bt_s hf
    refine gSi (As := [.int (zI x2), .int (zI 1), .int (zI (σ.1 4))]) (rest := []) C hw (tX10_isWithin h23) (va_cwS 3 hts gX10_wish_X10_isWithin rfl rfl rfl (by decide +kernel) ⟨Nat.le_of_ble_eq_true rfl, Nat.le_of_ble_eq_true rfl⟩) rfl hl.1 rfl (Nat.le_of_ble_eq_true rfl) dX10_wish_23 (fun H locs hw => ?_)
    obtain ⟨hg26, hf⟩ := gd_s hf
    refine zv_if_ne (tgt := 32) hx hb hg26 dX10_wish_26 (by decide) (fun (c26 : ¬ (r23 = 0)) => ?_) (fun (c26 : r23 = 0) => ?_)
    · rw [if_neg c26] at hf
      refine lv_aload_n hx hb dX10_wish_32 rfl (lv_at hl 0 rfl) ?_
      refine va_get (D := D) (ci := 10) (v := .ref (q 1)) (C := RX10) (T := TX10) (N := 13) hx hb hts (fun _ h => List.mem_cons_of_mem _ (List.mem_append_left _ (List.mem_append_right _ h))) hown hK hw.1 0 rfl rfl 1 (by decide) (hts (.fieldLink RX10 19 "EggThrones" "laid" "LEggThrones$Table;") (List.mem_of_getElem? (i := 1) rfl)) (fun _ h9 => h9) rfl dX10_wish_33 ?_
      refine lv_iload_n hx hb dX10_wish_36 rfl (lv_at hl 1 rfl) ?_
      obtain ⟨r37, h37, hf⟩ := bd_s hf
      replace hf := bt_s hf
      refine gVi (As := [.int (zI x1)]) (rest := []) C hw (tX8_wishOf_c1 h37) (cwV 1 hts gX10_wish_X8_wishOf rfl rfl rfl (by decide +kernel) ⟨Nat.le_of_ble_eq_true rfl, Nat.le_of_ble_eq_true rfl⟩) 8 1 rfl rfl rfl hl.1 rfl (Nat.le_of_ble_eq_true rfl) dX10_wish_37 (fun H locs hw => ?_)
      refine lv_istore_n (lv' := [(3, .int (zI r37)), (0, .ref (q 0)), (1, .int (zI x1)), (2, .int (zI x2))]) hx hb dX10_wish_40 rfl hl (by decide) rfl (fun ls hl => ?_)
      refine lv_aload_n hx hb dX10_wish_41 rfl (lv_at hl 1 rfl) ?_
      refine va_get (D := D) (ci := 10) (v := .ref (q 1)) (C := RX10) (T := TX10) (N := 13) hx hb hts (fun _ h => List.mem_cons_of_mem _ (List.mem_append_left _ (List.mem_append_right _ h))) hown hK hw.1 0 rfl rfl 1 (by decide) (hts (.fieldLink RX10 19 "EggThrones" "laid" "LEggThrones$Table;") (List.mem_of_getElem? (i := 1) rfl)) (fun _ h9 => h9) rfl dX10_wish_42 ?_
      refine lv_iload_n hx hb dX10_wish_45 rfl (lv_at hl 2 rfl) ?_
      refine lv_iload_n hx hb dX10_wish_46 rfl (lv_at hl 3 rfl) ?_
      obtain ⟨σ47, h47, hf⟩ := bd_s hf
      replace hf := bt_s hf
      refine gVv (As := [.int (zI x1), .int (zI x2)]) (rest := []) C hw (tX8_setWish_c1 h47) (cwV 2 hts gX10_wish_X8_setWish rfl rfl rfl (by decide +kernel) ⟨Nat.le_of_ble_eq_true rfl, Nat.le_of_ble_eq_true rfl⟩) 8 1 rfl rfl rfl hl.1 rfl (Nat.le_of_ble_eq_true rfl) dX10_wish_47 (fun H locs hw => ?_)
      refine lv_iload_n hx hb dX10_wish_50 rfl (lv_at hl 0 rfl) ?_
      cases hf
      exact hret H locs ls 51 dX10_wish_51 hw
    · rw [if_pos c26] at hf
      refine zv_ldc hx hb (-1000000002) (by decide +kernel) hown (hts (.constant RX10 95 (-1000000002)) (List.mem_of_getElem? (i := 3) rfl)) dX10_wish_29 ?_
      cases hf
      exact hret H locs ls 31 dX10_wish_31 hw
  · rw [if_pos c8] at hf
    refine zv_ldc hx hb (-1000000001) (by decide +kernel) hown (hts (.constant RX10 175 (-1000000001)) (List.mem_of_getElem? (i := 2) rfl)) dX10_wish_11 ?_
    cases hf
    exact hret H locs ls 13 dX10_wish_13 hw
set_option maxHeartbeats 4000000 in
set_option maxRecDepth 100000 in
theorem tX10_wish {l : Launch} {D : va_G} {A : Nat → Prop} {cI cZ : ClassId} {q : Nat → Nat} {σ : St} {x1 : Int} {x2 : Int} {r : Int} {τ : St} (hf : pX10_wish σ x1 x2 = some (r, τ)) : Met l yX10_wish wsX10_wish rmX10_wish (va_Pc [.ref (q 0), .int (zI x1), .int (zI x2)] (CX D (TY cI cZ) A (wE q cI cZ σ))) (QI D (TY cI cZ) A (wE q cI cZ τ) (zI r)) 0 0 A := by
  refine opn (cc := cX10_wish) (maxL := 4) (ret := (some .int)) (by decide) rfl (Nat.le_of_ble_eq_true rfl) (fun p e s m below meth c C ls hw hl => ?_)
  have hl : lv_has ls 4 [(0, .ref (q 0)), (1, .int (zI x1)), (2, .int (zI x2))] := hl
  rw [pX10_wish] at hf
  exact wX10_wish_0 C (rtI C) σ x1 x2 _ _ ls hw (lv_sub hl [0, 1, 2] rfl) hf
abbrev rmX11_wish : Room := { frames := 2, cells := 0, slots := 0, locals := 46 }
set_option maxHeartbeats 4000000 in
set_option maxRecDepth 100000 in
theorem wX11_wish_0 {p : Program} {l : Launch} {e : Env} {s : State} {m : MethodId} {args : Array Value} {below : List Frame} {meth : Method} {c : Code} {D : va_G} {A : Nat → Prop} {q : Nat → Nat} {cI cZ : ClassId} {Q : State → Prop} {r : Int} {τ : St} (C : Cx p s m args meth c D (TY cI cZ) cX11_wish (some .int) 4 wsX11_wish RX11) (hret : RtI p l e rmX11_wish s m args below meth c D A cX11_wish Q (wM q cI cZ τ) (zI r)) :
    ∀ (σ : St) (x1 : Int) (x2 : Int) (H : Heap) (locs : List Loc) (ls : Array Slot), Wd D A s (wM q cI cZ σ) H locs → lv_has ls 4 [(0, .ref (q 0)), (1, .int (zI x1)), (2, .int (zI x2))] → pX11_wish_0 σ x1 x2 = some (r, τ) → W p l e rmX11_wish s m args below meth c H locs 0 0 Q (F0 m 0 ls []) := by
  obtain ⟨hx, hb, hr, hml, hown, hts, hlk, hK, hN⟩ := id C
  intro σ x1 x2 H locs ls hw hl hf
  rw [pX11_wish_0] at hf
  refine lv_aload_n hx hb dX11_wish_0 rfl (lv_at hl 0 rfl) ?_
  refine lv_iload_n hx hb dX11_wish_1 rfl (lv_at hl 1 rfl) ?_
  obtain ⟨r2, h2, hf⟩ := bd_s hf
  replace hf := bt_s hf
  refine gVi (As := [.int (zI x1)]) (rest := []) C hw (tX11_isEgg h2) (cwV 1 hts gX11_wish_X11_isEgg rfl rfl rfl (by decide +kernel) ⟨Nat.le_of_ble_eq_true rfl, Nat.le_of_ble_eq_true rfl⟩) 11 0 rfl rfl rfl hl.1 rfl (Nat.le_of_ble_eq_true rfl) dX11_wish_2 (fun H locs hw => ?_)
  obtain ⟨hg5, hf⟩ := gd_s hf
  refine zv_if_ne (tgt := 11) hx hb hg5 dX11_wish_5 (by decide) (fun (c5 : ¬ (r2 = 0)) => ?_) (fun (c5 : r2 = 0) => ?_)
  · rw [if_neg c5] at hf
    refine lv_iload_n hx hb dX11_wish_11 rfl (lv_at hl 2 rfl) ?_
    obtain ⟨hz12, hf⟩ := gd_s hf
    refine zv_i2l hx hb hz12 dX11_wish_12 ?_
    refine lv_lconst (v := zL 1) hx hb dX11_wish_13 (by decide +kernel) ?_
    refine lv_aload_n hx hb dX11_wish_14 rfl (lv_at hl 0 rfl) ?_
    refine va_get (D := D) (ci := 11) (v := .int (zI (σ.1 1))) (C := RX11) (T := TX11) (N := 40) hx hb hts (fun _ h => List.mem_cons_of_mem _ (List.mem_append_right _ h)) hown hK hw.1 0 rfl rfl 1 (by decide) (hts (.fieldLink RX11 153 "EggThronesModel" "bears" "I") (List.mem_of_getElem? (i := 2) rfl)) (fun _ h9 => h9) rfl dX11_wish_15 ?_
    obtain ⟨hz18, hf⟩ := gd_s hf
    refine zv_i2l hx hb hz18 dX11_wish_18 ?_
    obtain ⟨r19, h19, hf⟩ := bd_s hf
    replace hf := bt_s hf
    refine gSi (As := [.long (zL x2), .long (zL 1), .long (zL (σ.1 1))]) (rest := []) C hw (tX11_in h19) (va_cwS 3 hts gX11_wish_X11_in rfl rfl rfl (by decide +kernel) ⟨Nat.le_of_ble_eq_true rfl, Nat.le_of_ble_eq_true rfl⟩) rfl hl.1 rfl (Nat.le_of_ble_eq_true rfl) dX11_wish_19 (fun H locs hw => ?_)
    obtain ⟨hg22, hf⟩ := gd_s hf
    refine zv_if_ne (tgt := 28) hx hb hg22 dX11_wish_22 (by decide) (fun (c22 : ¬ (r19 = 0)) => ?_) (fun (c22 : r19 = 0) => ?_)
    · rw [if_neg c22] at hf
      refine lv_aload_n hx hb dX11_wish_28 rfl (lv_at hl 0 rfl) ?_
      refine va_get (D := D) (ci := 11) (v := .ref (q 5)) (C := RX11) (T := TX11) (N := 40) hx hb hts (fun _ h => List.mem_cons_of_mem _ (List.mem_append_right _ h)) hown hK hw.1 0 rfl rfl 8 (by decide) (hts (.fieldLink RX11 22 "EggThronesModel" "wishes" "[I") (List.mem_of_getElem? (i := 4) rfl)) (fun _ h9 => h9) rfl dX11_wish_29 ?_
      refine lv_iload_n hx hb dX11_wish_32 rfl (lv_at hl 1 rfl) ?_
      obtain ⟨hi33, hf⟩ := gd_s hf
      refine zv_iald (D := D) hx hb hK hw.1 5 0 rfl rfl hi33 (by decide) dX11_wish_33 ?_
      refine lv_istore_n (lv' := [(3, .int (zI (σ.2 4 (Int.toNat x1)))), (0, .ref (q 0)), (1, .int (zI x1)), (2, .int (zI x2))]) hx hb dX11_wish_34 rfl hl (by decide) rfl (fun ls hl => ?_)
      refine lv_aload_n hx hb dX11_wish_35 rfl (lv_at hl 1 rfl) ?_
      refine va_get (D := D) (ci := 11) (v := .ref (q 5)) (C := RX11) (T := TX11) (N := 40) hx hb hts (fun _ h => List.mem_cons_of_mem _ (List.mem_append_right _ h)) hown hK hw.1 0 rfl rfl 8 (by decide) (hts (.fieldLink RX11 22 "EggThronesModel" "wishes" "[I") (List.mem_of_getElem? (i := 4) rfl)) (fun _ h9 => h9) rfl dX11_wish_36 ?_
      refine lv_iload_n hx hb dX11_wish_39 rfl (lv_at hl 2 rfl) ?_
      refine lv_iload_n hx hb dX11_wish_40 rfl (lv_at hl 3 rfl) ?_
      obtain ⟨hi41, hf⟩ := gd_s hf
      refine zv_iast (D := D) hx hb hK hw.1 hw.2.1 hw.2.2 5 0 rfl rfl hi41 (by decide) dX11_wish_41 (fun H locs hP hD hS => ?_)
      have hw : Wd D A s (wM q cI cZ (sA σ 4 (va_up (σ.2 4) (Int.toNat x1) x2))) H locs := wdaM_4 hP hD hS
      obtain ⟨σ41, e41, hf⟩ := nm_s hf
      replace hf := bt_s hf
      rw [← e41] at hw
      refine lv_iload_n hx hb dX11_wish_42 rfl (lv_at hl 0 rfl) ?_
      cases hf
      exact hret H locs ls 43 dX11_wish_43 hw
    · rw [if_pos c22] at hf
      refine zv_ldc hx hb (-1000000002) (by decide +kernel) hown (hts (.constant RX11 105 (-1000000002)) (List.mem_of_getElem? (i := 3) rfl)) dX11_wish_25 ?_
      cases hf
      exact hret H locs ls 27 dX11_wish_27 hw
  · rw [if_pos c5] at hf
    refine zv_ldc hx hb (-1000000001) (by decide +kernel) hown (hts (.constant RX11 200 (-1000000001)) (List.mem_of_getElem? (i := 1) rfl)) dX11_wish_8 ?_
    cases hf
    exact hret H locs ls 10 dX11_wish_10 hw
set_option maxHeartbeats 4000000 in
set_option maxRecDepth 100000 in
theorem tX11_wish {l : Launch} {D : va_G} {A : Nat → Prop} {cI cZ : ClassId} {q : Nat → Nat} {σ : St} {x1 : Int} {x2 : Int} {r : Int} {τ : St} (hf : pX11_wish σ x1 x2 = some (r, τ)) : Met l yX11_wish wsX11_wish rmX11_wish (va_Pc [.ref (q 0), .int (zI x1), .int (zI x2)] (CX D (TY cI cZ) A (wM q cI cZ σ))) (QI D (TY cI cZ) A (wM q cI cZ τ) (zI r)) 0 0 A := by
  refine opn (cc := cX11_wish) (maxL := 4) (ret := (some .int)) (by decide) rfl (Nat.le_of_ble_eq_true rfl) (fun p e s m below meth c C ls hw hl => ?_)
  have hl : lv_has ls 4 [(0, .ref (q 0)), (1, .int (zI x1)), (2, .int (zI x2))] := hl
  rw [pX11_wish] at hf
  exact wX11_wish_0 C (rtI C) σ x1 x2 _ _ ls hw (lv_sub hl [0, 1, 2] rfl) hf
