abbrev rmX11_keep : Room := { frames := 1, cells := 0, slots := 0, locals := 25 }
set_option maxHeartbeats 4000000 in
set_option maxRecDepth 100000 in
theorem wX11_keep_15 {p : Program} {l : Launch} {e : Env} {s : State} {m : MethodId} {args : Array Value} {below : List Frame} {meth : Method} {c : Code} {D : va_G} {A : Nat → Prop} {q : Nat → Nat} {cI cZ : ClassId} {Q : State → Prop} {r : Int} {τ : St} (C : Cx p s m args meth c D (TY cI cZ) cX11_keep (some .int) 3 wsX11_keep RX11) (hret : RtI p l e rmX11_keep s m args below meth c D A cX11_keep Q (wM q cI cZ τ) (zI r)) :
    ∀ (n : Nat) (σ : St) (x1 : Int) (x2 : Int) (H : Heap) (locs : List Loc) (ls : Array Slot), Wd D A s (wM q cI cZ σ) H locs → lv_has ls 3 [(0, .ref (q 0)), (1, .int (zI x1)), (2, .int (zI x2))] → pX11_keep_15 n σ x1 x2 = some (r, τ) → W p l e rmX11_keep s m args below meth c H locs 0 0 Q (F0 m 15 ls []) := by
  obtain ⟨hx, hb, hr, hml, hown, hts, hlk, hK, hN⟩ := id C
  intro n
  induction n with
  | zero =>
    intro σ x1 x2 H locs ls hw hl hf
    exact absurd (show (none : Option (Int × St)) = some (r, τ) from hf) (by simp)
  | succ n ih =>
    intro σ x1 x2 H locs ls hw hl hf
    rw [pX11_keep_15] at hf
    refine lv_iload_n hx hb dX11_keep_15 rfl (lv_at hl 2 rfl) ?_
    refine lv_bipush (v := zI 19) hx hb dX11_keep_16 (by decide +kernel) ?_
    obtain ⟨hg18, hf⟩ := gd_s hf
    refine zv_icmp_ge (tgt := 44) hx hb ⟨hg18, by decide⟩ dX11_keep_18 (by decide) (fun (c18 : 19 ≤ x2) => ?_) (fun (c18 : ¬ (19 ≤ x2)) => ?_)
    · rw [if_pos c18] at hf
      refine lv_aload_n hx hb dX11_keep_44 rfl (lv_at hl 0 rfl) ?_
      refine va_get (D := D) (ci := 11) (v := .ref (q 24)) (C := RX11) (T := TX11) (N := 40) hx hb hts (fun _ h => List.mem_cons_of_mem _ (List.mem_append_right _ h)) hown hK hw.1 0 rfl rfl 38 (by decide) (hts (.fieldLink RX11 83 "EggThronesModel" "images" "[I") (List.mem_of_getElem? (i := 2) rfl)) (fun _ h9 => h9) rfl dX11_keep_45 ?_
      refine lv_bipush (v := zI 20) hx hb dX11_keep_48 (by decide +kernel) ?_
      refine lv_iload_n hx hb dX11_keep_50 rfl (lv_at hl 1 rfl) ?_
      refine zv_imul hx hb dX11_keep_51 ?_
      refine lv_bipush (v := zI 19) hx hb dX11_keep_52 (by decide +kernel) ?_
      refine zv_iadd hx hb dX11_keep_54 ?_
      refine lv_aload_n hx hb dX11_keep_55 rfl (lv_at hl 0 rfl) ?_
      refine va_get (D := D) (ci := 11) (v := .int (zI (σ.1 4))) (C := RX11) (T := TX11) (N := 40) hx hb hts (fun _ h => List.mem_cons_of_mem _ (List.mem_append_right _ h)) hown hK hw.1 0 rfl rfl 10 (by decide) (hts (.fieldLink RX11 231 "EggThronesModel" "seed" "I") (List.mem_of_getElem? (i := 4) rfl)) (fun _ h9 => h9) rfl dX11_keep_56 ?_
      obtain ⟨hi59, hf⟩ := gd_s hf
      refine zv_iast (D := D) hx hb hK hw.1 hw.2.1 hw.2.2 24 0 rfl rfl hi59 (by decide) dX11_keep_59 (fun H locs hP hD hS => ?_)
      have hw : Wd D A s (wM q cI cZ (sA σ 23 (va_up (σ.2 23) (Int.toNat ((20 * x1) + 19)) (σ.1 4)))) H locs := wdaM_23 hP hD hS
      obtain ⟨σ59, e59, hf⟩ := nm_s hf
      replace hf := bt_s hf
      rw [← e59] at hw
      refine lv_aload_n hx hb dX11_keep_60 rfl (lv_at hl 0 rfl) ?_
      refine va_get (D := D) (ci := 11) (v := .ref (q 25)) (C := RX11) (T := TX11) (N := 40) hx hb hts (fun _ h => List.mem_cons_of_mem _ (List.mem_append_right _ h)) hown hK hw.1 0 rfl rfl 39 (by decide) (hts (.fieldLink RX11 86 "EggThronesModel" "isKept" "[Z") (List.mem_of_getElem? (i := 5) rfl)) (fun _ h9 => h9) rfl dX11_keep_61 ?_
      refine lv_iload_n hx hb dX11_keep_64 rfl (lv_at hl 1 rfl) ?_
      refine lv_iconst (v := zI 1) hx hb dX11_keep_65 rfl ?_
      obtain ⟨hi66, hf⟩ := gd_s hf
      refine zv_zast (D := D) hx hb hK hw.1 hw.2.1 hw.2.2 25 1 rfl rfl hi66 (by decide) (by decide) dX11_keep_66 (fun H locs hP hD hS => ?_)
      have hw : Wd D A s (wM q cI cZ (sA σ59 24 (va_up (σ59.2 24) (Int.toNat x1) 1))) H locs := wdaM_24 hP hD hS
      obtain ⟨σ66, e66, hf⟩ := nm_s hf
      replace hf := bt_s hf
      rw [← e66] at hw
      refine lv_aload_n hx hb dX11_keep_67 rfl (lv_at hl 0 rfl) ?_
      refine lv_iconst (v := zI 0) hx hb dX11_keep_68 rfl ?_
      refine va_put (D := D) (ci := 11) (v := .int (zI 0)) (ty := .int) (C := RX11) (T := TX11) (N := 40) hx hb hts (fun _ h => List.mem_cons_of_mem _ (List.mem_append_right _ h)) tyX11 tyX11_ok nmX11 hown hK hw.1 hw.2.1 hw.2.2 0 rfl rfl 24 (by decide) (hts (.fieldLink RX11 168 "EggThronesModel" "undos" "I") (List.mem_of_getElem? (i := 6) rfl)) (fun _ h9 => h9) rfl (by decide +kernel) rfl rfl (Nat.le_of_ble_eq_true rfl) dX11_keep_69 (fun H locs hP hD hS => ?_)
      have hw : Wd D A s (wM q cI cZ (sI σ66 12 0)) H locs := wdiM_12 hP hD hS
      obtain ⟨σ69, e69, hf⟩ := nm_s hf
      replace hf := bt_s hf
      rw [← e69] at hw
      refine lv_iconst (v := zI 1) hx hb dX11_keep_72 rfl ?_
      cases hf
      exact hret H locs ls 73 dX11_keep_73 hw
    · rw [if_neg c18] at hf
      refine lv_aload_n hx hb dX11_keep_21 rfl (lv_at hl 0 rfl) ?_
      refine va_get (D := D) (ci := 11) (v := .ref (q 24)) (C := RX11) (T := TX11) (N := 40) hx hb hts (fun _ h => List.mem_cons_of_mem _ (List.mem_append_right _ h)) hown hK hw.1 0 rfl rfl 38 (by decide) (hts (.fieldLink RX11 83 "EggThronesModel" "images" "[I") (List.mem_of_getElem? (i := 2) rfl)) (fun _ h9 => h9) rfl dX11_keep_22 ?_
      refine lv_bipush (v := zI 20) hx hb dX11_keep_25 (by decide +kernel) ?_
      refine lv_iload_n hx hb dX11_keep_27 rfl (lv_at hl 1 rfl) ?_
      refine zv_imul hx hb dX11_keep_28 ?_
      refine lv_iload_n hx hb dX11_keep_29 rfl (lv_at hl 2 rfl) ?_
      refine zv_iadd hx hb dX11_keep_30 ?_
      refine lv_aload_n hx hb dX11_keep_31 rfl (lv_at hl 0 rfl) ?_
      refine va_get (D := D) (ci := 11) (v := .ref (q 6)) (C := RX11) (T := TX11) (N := 40) hx hb hts (fun _ h => List.mem_cons_of_mem _ (List.mem_append_right _ h)) hown hK hw.1 0 rfl rfl 9 (by decide) (hts (.fieldLink RX11 25 "EggThronesModel" "now" "[I") (List.mem_of_getElem? (i := 3) rfl)) (fun _ h9 => h9) rfl dX11_keep_32 ?_
      refine lv_iload_n hx hb dX11_keep_35 rfl (lv_at hl 2 rfl) ?_
      obtain ⟨hi36, hf⟩ := gd_s hf
      refine zv_iald (D := D) hx hb hK hw.1 6 0 rfl rfl hi36 (by decide) dX11_keep_36 ?_
      obtain ⟨hi37, hf⟩ := gd_s hf
      refine zv_iast (D := D) hx hb hK hw.1 hw.2.1 hw.2.2 24 0 rfl rfl hi37 (by decide) dX11_keep_37 (fun H locs hP hD hS => ?_)
      have hw : Wd D A s (wM q cI cZ (sA σ 23 (va_up (σ.2 23) (Int.toNat ((20 * x1) + x2)) (σ.2 5 (Int.toNat x2))))) H locs := wdaM_23 hP hD hS
      obtain ⟨σ37, e37, hf⟩ := nm_s hf
      replace hf := bt_s hf
      rw [← e37] at hw
      refine lv_iinc (v := zI (x2 + 1)) (lv' := [(2, .int (zI (x2 + 1))), (0, .ref (q 0)), (1, .int (zI x1))]) hx hb dX11_keep_38 hl (k := 2) rfl (zI_add _ _) (by decide) rfl (fun ls hl => ?_)
      refine lv_goto (tgt := 15) hx hb dX11_keep_41 (by decide) ?_
      exact ih σ37 x1 (x2 + 1) H locs ls hw (lv_sub hl [1, 2, 0] rfl) hf
set_option maxHeartbeats 4000000 in
set_option maxRecDepth 100000 in
theorem wX11_keep_0 {p : Program} {l : Launch} {e : Env} {s : State} {m : MethodId} {args : Array Value} {below : List Frame} {meth : Method} {c : Code} {D : va_G} {A : Nat → Prop} {q : Nat → Nat} {cI cZ : ClassId} {Q : State → Prop} {r : Int} {τ : St} (C : Cx p s m args meth c D (TY cI cZ) cX11_keep (some .int) 3 wsX11_keep RX11) (hret : RtI p l e rmX11_keep s m args below meth c D A cX11_keep Q (wM q cI cZ τ) (zI r)) :
    ∀ (σ : St) (x1 : Int) (H : Heap) (locs : List Loc) (ls : Array Slot), Wd D A s (wM q cI cZ σ) H locs → lv_has ls 3 [(0, .ref (q 0)), (1, .int (zI x1))] → pX11_keep_0 σ x1 = some (r, τ) → W p l e rmX11_keep s m args below meth c H locs 0 0 Q (F0 m 0 ls []) := by
  obtain ⟨hx, hb, hr, hml, hown, hts, hlk, hK, hN⟩ := id C
  intro σ x1 H locs ls hw hl hf
  rw [pX11_keep_0] at hf
  refine lv_iload_n hx hb dX11_keep_0 rfl (lv_at hl 1 rfl) ?_
  obtain ⟨hz1, hf⟩ := gd_s hf
  refine zv_i2l hx hb hz1 dX11_keep_1 ?_
  refine lv_lconst (v := zL 0) hx hb dX11_keep_2 (by decide +kernel) ?_
  refine lv_lconst (v := zL 1) hx hb dX11_keep_3 (by decide +kernel) ?_
  obtain ⟨r4, h4, hf⟩ := bd_s hf
  replace hf := bt_s hf
  refine gSi (As := [.long (zL x1), .long (zL 0), .long (zL 1)]) (rest := []) C hw (tX11_in h4) (va_cwS 3 hts gX11_keep_X11_in rfl rfl rfl (by decide +kernel) ⟨Nat.le_of_ble_eq_true rfl, Nat.le_of_ble_eq_true rfl⟩) rfl hl.1 rfl (Nat.le_of_ble_eq_true rfl) dX11_keep_4 (fun H locs hw => ?_)
  obtain ⟨hg7, hf⟩ := gd_s hf
  refine zv_if_ne (tgt := 13) hx hb hg7 dX11_keep_7 (by decide) (fun (c7 : ¬ (r4 = 0)) => ?_) (fun (c7 : r4 = 0) => ?_)
  · rw [if_neg c7] at hf
    refine lv_iconst (v := zI 0) hx hb dX11_keep_13 rfl ?_
    refine lv_istore_n (lv' := [(2, .int (zI 0)), (0, .ref (q 0)), (1, .int (zI x1))]) hx hb dX11_keep_14 rfl hl (by decide) rfl (fun ls hl => ?_)
    exact wX11_keep_15 C hret FU σ x1 0 H locs ls hw (lv_sub hl [1, 2, 0] rfl) hf
  · rw [if_pos c7] at hf
    refine zv_ldc hx hb (-1000000001) (by decide +kernel) hown (hts (.constant RX11 200 (-1000000001)) (List.mem_of_getElem? (i := 1) rfl)) dX11_keep_10 ?_
    cases hf
    exact hret H locs ls 12 dX11_keep_12 hw
set_option maxHeartbeats 4000000 in
set_option maxRecDepth 100000 in
theorem tX11_keep {l : Launch} {D : va_G} {A : Nat → Prop} {cI cZ : ClassId} {q : Nat → Nat} {σ : St} {x1 : Int} {r : Int} {τ : St} (hf : pX11_keep σ x1 = some (r, τ)) : Met l yX11_keep wsX11_keep rmX11_keep (va_Pc [.ref (q 0), .int (zI x1)] (CX D (TY cI cZ) A (wM q cI cZ σ))) (QI D (TY cI cZ) A (wM q cI cZ τ) (zI r)) 0 0 A := by
  refine opn (cc := cX11_keep) (maxL := 3) (ret := (some .int)) (by decide) rfl (Nat.le_of_ble_eq_true rfl) (fun p e s m below meth c C ls hw hl => ?_)
  have hl : lv_has ls 3 [(0, .ref (q 0)), (1, .int (zI x1))] := hl
  rw [pX11_keep] at hf
  exact wX11_keep_0 C (rtI C) σ x1 _ _ ls hw (lv_sub hl [0, 1] rfl) hf
abbrev rmX3_has : Room := { frames := 0, cells := 0, slots := 0, locals := 0 }
set_option maxHeartbeats 4000000 in
set_option maxRecDepth 100000 in
theorem wX3_has_0 {p : Program} {l : Launch} {e : Env} {s : State} {m : MethodId} {args : Array Value} {below : List Frame} {meth : Method} {c : Code} {D : va_G} {A : Nat → Prop} {q : Nat → Nat} {cI cZ : ClassId} {Q : State → Prop} {σ : St} {r : Int} (C : Cx p s m args meth c D (TY cI cZ) cX3_has (some .boolean) 2 wsX3_has RX3) (hret : RtZ p l e rmX3_has s m args below meth c D A cX3_has Q (wE q cI cZ σ) (zI r)) :
    ∀ (x1 : Int) (H : Heap) (locs : List Loc) (ls : Array Slot), Wd D A s (wE q cI cZ σ) H locs → lv_has ls 2 [(0, .ref (q 20)), (1, .int (zI x1))] → pX3_has_0 σ x1 = some r → W p l e rmX3_has s m args below meth c H locs 0 0 Q (F0 m 0 ls []) := by
  obtain ⟨hx, hb, hr, hml, hown, hts, hlk, hK, hN⟩ := id C
  intro x1 H locs ls hw hl hf
  rw [pX3_has_0] at hf
  refine lv_iload_n hx hb dX3_has_0 rfl (lv_at hl 1 rfl) ?_
  obtain ⟨hg1, hf⟩ := gd_s hf
  refine zv_if_lt (tgt := 22) hx hb hg1 dX3_has_1 (by decide) (fun (c1 : x1 < 0) => ?_) (fun (c1 : ¬ (x1 < 0)) => ?_)
  · rw [if_pos c1] at hf
    refine lv_iconst (v := zI 0) hx hb dX3_has_22 rfl ?_
    cases hf
    exact hret H locs ls 23 dX3_has_23 (by decide +kernel) hw
  · rw [if_neg c1] at hf
    refine lv_iload_n hx hb dX3_has_4 rfl (lv_at hl 1 rfl) ?_
    refine lv_iconst (v := zI 2) hx hb dX3_has_5 rfl ?_
    obtain ⟨hg6, hf⟩ := gd_s hf
    refine zv_icmp_ge (tgt := 22) hx hb ⟨hg6, by decide⟩ dX3_has_6 (by decide) (fun (c6 : 2 ≤ x1) => ?_) (fun (c6 : ¬ (2 ≤ x1)) => ?_)
    · rw [if_pos c6] at hf
      refine lv_iconst (v := zI 0) hx hb dX3_has_22 rfl ?_
      cases hf
      exact hret H locs ls 23 dX3_has_23 (by decide +kernel) hw
    · rw [if_neg c6] at hf
      refine lv_aload_n hx hb dX3_has_9 rfl (lv_at hl 0 rfl) ?_
      refine va_get (D := D) (ci := 3) (v := .ref (q 23)) (C := RX3) (T := TX3) (N := 3) hx hb hts (fun _ h => List.mem_cons_of_mem _ (List.mem_append_right _ h)) hown hK hw.1 20 rfl rfl 2 (by decide) (hts (.fieldLink RX3 20 "EggThrones$Images" "taken" "[Z") (List.mem_of_getElem? (i := 1) rfl)) (fun _ h9 => h9) rfl dX3_has_10 ?_
      refine lv_iload_n hx hb dX3_has_13 rfl (lv_at hl 1 rfl) ?_
      obtain ⟨hi14, hf⟩ := gd_s hf
      refine zv_zald (D := D) hx hb hK hw.1 23 1 rfl rfl hi14 (by decide) dX3_has_14 ?_
      obtain ⟨hg15, hf⟩ := gd_s hf
      refine zv_if_eq (tgt := 22) hx hb hg15 dX3_has_15 (by decide) (fun (c15 : (σ.2 16 (Int.toNat x1)) = 0) => ?_) (fun (c15 : ¬ ((σ.2 16 (Int.toNat x1)) = 0)) => ?_)
      · rw [if_pos c15] at hf
        refine lv_iconst (v := zI 0) hx hb dX3_has_22 rfl ?_
        cases hf
        exact hret H locs ls 23 dX3_has_23 (by decide +kernel) hw
      · rw [if_neg c15] at hf
        refine lv_iconst (v := zI 1) hx hb dX3_has_18 rfl ?_
        refine lv_goto (tgt := 23) hx hb dX3_has_19 (by decide) ?_
        cases hf
        exact hret H locs ls 23 dX3_has_23 (by decide +kernel) hw
set_option maxHeartbeats 4000000 in
set_option maxRecDepth 100000 in
theorem tX3_has {l : Launch} {D : va_G} {A : Nat → Prop} {cI cZ : ClassId} {q : Nat → Nat} {σ : St} {x1 : Int} {r : Int} (hf : pX3_has σ x1 = some r) : Met l yX3_has wsX3_has rmX3_has (va_Pc [.ref (q 20), .int (zI x1)] (CX D (TY cI cZ) A (wE q cI cZ σ))) (QI D (TY cI cZ) A (wE q cI cZ σ) (zI r)) 0 0 A := by
  refine opn (cc := cX3_has) (maxL := 2) (ret := (some .boolean)) (by decide) rfl (Nat.le_of_ble_eq_true rfl) (fun p e s m below meth c C ls hw hl => ?_)
  have hl : lv_has ls 2 [(0, .ref (q 20)), (1, .int (zI x1))] := hl
  rw [pX3_has] at hf
  exact wX3_has_0 C (rtZ C) x1 _ _ ls hw (lv_sub hl [0, 1] rfl) hf
abbrev rmX4_loadFrom_a21 : Room := { frames := 1, cells := 0, slots := 0, locals := 60 }
set_option maxHeartbeats 4000000 in
set_option maxRecDepth 100000 in
theorem wX4_loadFrom_a21_0 {p : Program} {l : Launch} {e : Env} {s : State} {m : MethodId} {args : Array Value} {below : List Frame} {meth : Method} {c : Code} {D : va_G} {A : Nat → Prop} {q : Nat → Nat} {cI cZ : ClassId} {Q : State → Prop} {τ : St} (C : Cx p s m args meth c D (TY cI cZ) cX4_loadFrom none 4 wsX4_loadFrom RX4) (hret : RtV p l e rmX4_loadFrom_a21 s m args below meth c D A cX4_loadFrom Q (wE q cI cZ τ)) :
    ∀ (σ : St) (x2 : Int) (H : Heap) (locs : List Loc) (ls : Array Slot), Wd D A s (wE q cI cZ σ) H locs → lv_has ls 4 [(0, .ref (q 15)), (1, .ref (q 21)), (2, .int (zI x2))] → pX4_loadFrom_a21_0 σ x2 = some τ → W p l e rmX4_loadFrom_a21 s m args below meth c H locs 0 0 Q (F0 m 0 ls []) := by
  obtain ⟨hx, hb, hr, hml, hown, hts, hlk, hK, hN⟩ := id C
  intro σ x2 H locs ls hw hl hf
  rw [pX4_loadFrom_a21_0] at hf
  refine lv_aload_n hx hb dX4_loadFrom_0 rfl (lv_at hl 1 rfl) ?_
  refine lv_iload_n hx hb dX4_loadFrom_1 rfl (lv_at hl 2 rfl) ?_
  obtain ⟨r2, h2, hf⟩ := bd_s hf
  replace hf := bt_s hf
  refine gSi (As := [.ref (q 21), .int (zI x2)]) (rest := []) C hw (tX4_isRow_a21 h2) (va_cwS 2 hts gX4_loadFrom_X4_isRow rfl rfl rfl (by decide +kernel) ⟨Nat.le_of_ble_eq_true rfl, Nat.le_of_ble_eq_true rfl⟩) rfl hl.1 rfl (Nat.le_of_ble_eq_true rfl) dX4_loadFrom_2 (fun H locs hw => ?_)
  obtain ⟨hg5, hf⟩ := gd_s hf
  refine zv_if_ne (tgt := 9) hx hb hg5 dX4_loadFrom_5 (by decide) (fun (c5 : ¬ (r2 = 0)) => ?_) (fun (c5 : r2 = 0) => ?_)
  · rw [if_neg c5] at hf
    refine lv_aload_n hx hb dX4_loadFrom_9 rfl (lv_at hl 1 rfl) ?_
    refine lv_iload_n hx hb dX4_loadFrom_10 rfl (lv_at hl 2 rfl) ?_
    refine lv_aload_n hx hb dX4_loadFrom_11 rfl (lv_at hl 0 rfl) ?_
    refine va_get (D := D) (ci := 4) (v := .ref (q 16)) (C := RX4) (T := TX4) (N := 9) hx hb hts (fun _ h => List.mem_cons_of_mem _ (List.mem_append_right _ h)) hown hK hw.1 15 rfl rfl 1 (by decide) (hts (.fieldLink RX4 15 "EggThrones$Morning" "states" "[I") (List.mem_of_getElem? (i := 1) rfl)) (fun _ h9 => h9) rfl dX4_loadFrom_12 ?_
    refine lv_iconst (v := zI 0) hx hb dX4_loadFrom_15 rfl ?_
    refine lv_bipush (v := zI 7) hx hb dX4_loadFrom_16 (by decide +kernel) ?_
    obtain ⟨ha18, hf⟩ := gd_s hf
    refine zv_copyi (D := D) (rest := []) hx hb (hml.trans hl.1.symm) hown (hts (.methodLink RX4 106 arraycopyName) (List.mem_of_getElem? (i := 2) rfl)) (hts (.native arraycopyName) (List.mem_of_getElem? (i := 3) rfl)) (hts (.static arraycopyName) (List.mem_of_getElem? (i := 4) rfl)) (hts (.initialized "java/lang/System") (List.mem_of_getElem? (i := 5) rfl)) hK hw.1 hw.2.1 hw.2.2 21 16 0 0 rfl rfl rfl rfl ha18 (by decide) (by decide) (Nat.le_of_ble_eq_true rfl) (Nat.le_of_ble_eq_true rfl) dX4_loadFrom_18 (fun H locs hP hD hS => ?_)
    have hw : Wd D A s (wE q cI cZ (sA σ 11 (va_cpy (σ.2 14) (σ.2 11) (Int.toNat x2) 0 7))) H locs := wdaE_11 hP hD hS
    obtain ⟨σ18, e18, hf⟩ := nm_s hf
    replace hf := bt_s hf
    rw [← e18] at hw
    refine lv_aload_n hx hb dX4_loadFrom_21 rfl (lv_at hl 1 rfl) ?_
    refine lv_iload_n hx hb dX4_loadFrom_22 rfl (lv_at hl 2 rfl) ?_
    refine lv_bipush (v := zI 7) hx hb dX4_loadFrom_23 (by decide +kernel) ?_
    refine zv_iadd hx hb dX4_loadFrom_25 ?_
    refine lv_aload_n hx hb dX4_loadFrom_26 rfl (lv_at hl 0 rfl) ?_
    refine va_get (D := D) (ci := 4) (v := .ref (q 17)) (C := RX4) (T := TX4) (N := 9) hx hb hts (fun _ h => List.mem_cons_of_mem _ (List.mem_append_right _ h)) hown hK hw.1 15 rfl rfl 2 (by decide) (hts (.fieldLink RX4 19 "EggThrones$Morning" "boiled" "[I") (List.mem_of_getElem? (i := 6) rfl)) (fun _ h9 => h9) rfl dX4_loadFrom_27 ?_
    refine lv_iconst (v := zI 0) hx hb dX4_loadFrom_30 rfl ?_
    refine lv_bipush (v := zI 7) hx hb dX4_loadFrom_31 (by decide +kernel) ?_
    obtain ⟨ha33, hf⟩ := gd_s hf
    refine zv_copyi (D := D) (rest := []) hx hb (hml.trans hl.1.symm) hown (hts (.methodLink RX4 106 arraycopyName) (List.mem_of_getElem? (i := 2) rfl)) (hts (.native arraycopyName) (List.mem_of_getElem? (i := 3) rfl)) (hts (.static arraycopyName) (List.mem_of_getElem? (i := 4) rfl)) (hts (.initialized "java/lang/System") (List.mem_of_getElem? (i := 5) rfl)) hK hw.1 hw.2.1 hw.2.2 21 17 0 0 rfl rfl rfl rfl ha33 (by decide) (by decide) (Nat.le_of_ble_eq_true rfl) (Nat.le_of_ble_eq_true rfl) dX4_loadFrom_33 (fun H locs hP hD hS => ?_)
    have hw : Wd D A s (wE q cI cZ (sA σ18 12 (va_cpy (σ18.2 14) (σ18.2 12) (Int.toNat (x2 + 7)) 0 7))) H locs := wdaE_12 hP hD hS
    obtain ⟨σ33, e33, hf⟩ := nm_s hf
    replace hf := bt_s hf
    rw [← e33] at hw
    refine lv_iload_n hx hb dX4_loadFrom_36 rfl (lv_at hl 2 rfl) ?_
    refine lv_bipush (v := zI 14) hx hb dX4_loadFrom_37 (by decide +kernel) ?_
    refine zv_iadd hx hb dX4_loadFrom_39 ?_
    refine lv_istore_n (lv' := [(3, .int (zI (x2 + 14))), (0, .ref (q 15)), (1, .ref (q 21)), (2, .int (zI x2))]) hx hb dX4_loadFrom_40 rfl hl (by decide) rfl (fun ls hl => ?_)
    refine lv_aload_n hx hb dX4_loadFrom_41 rfl (lv_at hl 1 rfl) ?_
    refine lv_aload_n hx hb dX4_loadFrom_42 rfl (lv_at hl 2 rfl) ?_
    refine lv_iload_n hx hb dX4_loadFrom_43 rfl (lv_at hl 0 rfl) ?_
    obtain ⟨hi44, hf⟩ := gd_s hf
    refine zv_iald (D := D) hx hb hK hw.1 21 0 rfl rfl hi44 (by decide) dX4_loadFrom_44 ?_
    refine va_put (D := D) (ci := 4) (v := .int (zI (σ33.2 14 (Int.toNat (x2 + 14))))) (ty := .int) (C := RX4) (T := TX4) (N := 9) hx hb hts (fun _ h => List.mem_cons_of_mem _ (List.mem_append_right _ h)) tyX4 tyX4_ok nmX4 hown hK hw.1 hw.2.1 hw.2.2 15 rfl rfl 3 (by decide) (hts (.fieldLink RX4 22 "EggThrones$Morning" "king" "I") (List.mem_of_getElem? (i := 7) rfl)) (fun _ h9 => h9) rfl (by decide +kernel) rfl rfl (Nat.le_of_ble_eq_true rfl) dX4_loadFrom_45 (fun H locs hP hD hS => ?_)
    have hw : Wd D A s (wE q cI cZ (sI σ33 16 (σ33.2 14 (Int.toNat (x2 + 14))))) H locs := wdiE_16 hP hD hS
    obtain ⟨σ45, e45, hf⟩ := nm_s hf
    replace hf := bt_s hf
    rw [← e45] at hw
    refine lv_aload_n hx hb dX4_loadFrom_48 rfl (lv_at hl 1 rfl) ?_
    refine lv_aload_n hx hb dX4_loadFrom_49 rfl (lv_at hl 2 rfl) ?_
    refine lv_iload_n hx hb dX4_loadFrom_50 rfl (lv_at hl 0 rfl) ?_
    refine lv_iconst (v := zI 1) hx hb dX4_loadFrom_51 rfl ?_
    refine zv_iadd hx hb dX4_loadFrom_52 ?_
    obtain ⟨hi53, hf⟩ := gd_s hf
    refine zv_iald (D := D) hx hb hK hw.1 21 0 rfl rfl hi53 (by decide) dX4_loadFrom_53 ?_
    refine va_put (D := D) (ci := 4) (v := .int (zI (σ45.2 14 (Int.toNat ((x2 + 14) + 1))))) (ty := .int) (C := RX4) (T := TX4) (N := 9) hx hb hts (fun _ h => List.mem_cons_of_mem _ (List.mem_append_right _ h)) tyX4 tyX4_ok nmX4 hown hK hw.1 hw.2.1 hw.2.2 15 rfl rfl 4 (by decide) (hts (.fieldLink RX4 26 "EggThrones$Morning" "left" "I") (List.mem_of_getElem? (i := 8) rfl)) (fun _ h9 => h9) rfl (by decide +kernel) rfl rfl (Nat.le_of_ble_eq_true rfl) dX4_loadFrom_54 (fun H locs hP hD hS => ?_)
    have hw : Wd D A s (wE q cI cZ (sI σ45 17 (σ45.2 14 (Int.toNat ((x2 + 14) + 1))))) H locs := wdiE_17 hP hD hS
    obtain ⟨σ54, e54, hf⟩ := nm_s hf
    replace hf := bt_s hf
    rw [← e54] at hw
    refine lv_aload_n hx hb dX4_loadFrom_57 rfl (lv_at hl 1 rfl) ?_
    refine lv_aload_n hx hb dX4_loadFrom_58 rfl (lv_at hl 2 rfl) ?_
    refine lv_iload_n hx hb dX4_loadFrom_59 rfl (lv_at hl 0 rfl) ?_
    refine lv_iconst (v := zI 2) hx hb dX4_loadFrom_60 rfl ?_
    refine zv_iadd hx hb dX4_loadFrom_61 ?_
    obtain ⟨hi62, hf⟩ := gd_s hf
    refine zv_iald (D := D) hx hb hK hw.1 21 0 rfl rfl hi62 (by decide) dX4_loadFrom_62 ?_
    refine va_put (D := D) (ci := 4) (v := .int (zI (σ54.2 14 (Int.toNat ((x2 + 14) + 2))))) (ty := .int) (C := RX4) (T := TX4) (N := 9) hx hb hts (fun _ h => List.mem_cons_of_mem _ (List.mem_append_right _ h)) tyX4 tyX4_ok nmX4 hown hK hw.1 hw.2.1 hw.2.2 15 rfl rfl 5 (by decide) (hts (.fieldLink RX4 29 "EggThrones$Morning" "soldiers" "I") (List.mem_of_getElem? (i := 9) rfl)) (fun _ h9 => h9) rfl (by decide +kernel) rfl rfl (Nat.le_of_ble_eq_true rfl) dX4_loadFrom_63 (fun H locs hP hD hS => ?_)
    have hw : Wd D A s (wE q cI cZ (sI σ54 18 (σ54.2 14 (Int.toNat ((x2 + 14) + 2))))) H locs := wdiE_18 hP hD hS
    obtain ⟨σ63, e63, hf⟩ := nm_s hf
    replace hf := bt_s hf
    rw [← e63] at hw
    refine lv_aload_n hx hb dX4_loadFrom_66 rfl (lv_at hl 1 rfl) ?_
    refine lv_aload_n hx hb dX4_loadFrom_67 rfl (lv_at hl 2 rfl) ?_
    refine lv_iload_n hx hb dX4_loadFrom_68 rfl (lv_at hl 0 rfl) ?_
    refine lv_iconst (v := zI 3) hx hb dX4_loadFrom_69 rfl ?_
    refine zv_iadd hx hb dX4_loadFrom_70 ?_
    obtain ⟨hi71, hf⟩ := gd_s hf
    refine zv_iald (D := D) hx hb hK hw.1 21 0 rfl rfl hi71 (by decide) dX4_loadFrom_71 ?_
    refine va_put (D := D) (ci := 4) (v := .int (zI (σ63.2 14 (Int.toNat ((x2 + 14) + 3))))) (ty := .int) (C := RX4) (T := TX4) (N := 9) hx hb hts (fun _ h => List.mem_cons_of_mem _ (List.mem_append_right _ h)) tyX4 tyX4_ok nmX4 hown hK hw.1 hw.2.1 hw.2.2 15 rfl rfl 6 (by decide) (hts (.fieldLink RX4 32 "EggThrones$Morning" "minutes" "I") (List.mem_of_getElem? (i := 10) rfl)) (fun _ h9 => h9) rfl (by decide +kernel) rfl rfl (Nat.le_of_ble_eq_true rfl) dX4_loadFrom_72 (fun H locs hP hD hS => ?_)
    have hw : Wd D A s (wE q cI cZ (sI σ63 19 (σ63.2 14 (Int.toNat ((x2 + 14) + 3))))) H locs := wdiE_19 hP hD hS
    obtain ⟨σ72, e72, hf⟩ := nm_s hf
    replace hf := bt_s hf
    rw [← e72] at hw
    refine lv_aload_n hx hb dX4_loadFrom_75 rfl (lv_at hl 1 rfl) ?_
    refine lv_aload_n hx hb dX4_loadFrom_76 rfl (lv_at hl 2 rfl) ?_
    refine lv_iload_n hx hb dX4_loadFrom_77 rfl (lv_at hl 0 rfl) ?_
    refine lv_iconst (v := zI 4) hx hb dX4_loadFrom_78 rfl ?_
    refine zv_iadd hx hb dX4_loadFrom_79 ?_
    obtain ⟨hi80, hf⟩ := gd_s hf
    refine zv_iald (D := D) hx hb hK hw.1 21 0 rfl rfl hi80 (by decide) dX4_loadFrom_80 ?_
    refine va_put (D := D) (ci := 4) (v := .int (zI (σ72.2 14 (Int.toNat ((x2 + 14) + 4))))) (ty := .int) (C := RX4) (T := TX4) (N := 9) hx hb hts (fun _ h => List.mem_cons_of_mem _ (List.mem_append_right _ h)) tyX4 tyX4_ok nmX4 hown hK hw.1 hw.2.1 hw.2.2 15 rfl rfl 7 (by decide) (hts (.fieldLink RX4 35 "EggThrones$Morning" "reigned" "I") (List.mem_of_getElem? (i := 11) rfl)) (fun _ h9 => h9) rfl (by decide +kernel) rfl rfl (Nat.le_of_ble_eq_true rfl) dX4_loadFrom_81 (fun H locs hP hD hS => ?_)
    have hw : Wd D A s (wE q cI cZ (sI σ72 20 (σ72.2 14 (Int.toNat ((x2 + 14) + 4))))) H locs := wdiE_20 hP hD hS
    obtain ⟨σ81, e81, hf⟩ := nm_s hf
    replace hf := bt_s hf
    rw [← e81] at hw
    refine lv_aload_n hx hb dX4_loadFrom_84 rfl (lv_at hl 1 rfl) ?_
    refine lv_aload_n hx hb dX4_loadFrom_85 rfl (lv_at hl 2 rfl) ?_
    refine lv_iload_n hx hb dX4_loadFrom_86 rfl (lv_at hl 0 rfl) ?_
    refine lv_iconst (v := zI 5) hx hb dX4_loadFrom_87 rfl ?_
    refine zv_iadd hx hb dX4_loadFrom_88 ?_
    obtain ⟨hi89, hf⟩ := gd_s hf
    refine zv_iald (D := D) hx hb hK hw.1 21 0 rfl rfl hi89 (by decide) dX4_loadFrom_89 ?_
    refine va_put (D := D) (ci := 4) (v := .int (zI (σ81.2 14 (Int.toNat ((x2 + 14) + 5))))) (ty := .int) (C := RX4) (T := TX4) (N := 9) hx hb hts (fun _ h => List.mem_cons_of_mem _ (List.mem_append_right _ h)) tyX4 tyX4_ok nmX4 hown hK hw.1 hw.2.1 hw.2.2 15 rfl rfl 8 (by decide) (hts (.fieldLink RX4 38 "EggThrones$Morning" "scraped" "I") (List.mem_of_getElem? (i := 12) rfl)) (fun _ h9 => h9) rfl (by decide +kernel) rfl rfl (Nat.le_of_ble_eq_true rfl) dX4_loadFrom_90 (fun H locs hP hD hS => ?_)
    have hw : Wd D A s (wE q cI cZ (sI σ81 21 (σ81.2 14 (Int.toNat ((x2 + 14) + 5))))) H locs := wdiE_21 hP hD hS
    obtain ⟨σ90, e90, hf⟩ := nm_s hf
    replace hf := bt_s hf
    rw [← e90] at hw
    cases hf
    exact hret H locs ls 93 dX4_loadFrom_93 hw
  · rw [if_pos c5] at hf
    cases hf
    exact hret H locs ls 8 dX4_loadFrom_8 hw
set_option maxHeartbeats 4000000 in
set_option maxRecDepth 100000 in
theorem tX4_loadFrom_a21 {l : Launch} {D : va_G} {A : Nat → Prop} {cI cZ : ClassId} {q : Nat → Nat} {σ : St} {x2 : Int} {τ : St} (hf : pX4_loadFrom_a21 σ x2 = some τ) : Met l yX4_loadFrom wsX4_loadFrom rmX4_loadFrom_a21 (va_Pc [.ref (q 15), .ref (q 21), .int (zI x2)] (CX D (TY cI cZ) A (wE q cI cZ σ))) (QV D (TY cI cZ) A (wE q cI cZ τ)) 0 0 A := by
  refine opn (cc := cX4_loadFrom) (maxL := 4) (ret := none) (by decide) rfl (Nat.le_of_ble_eq_true rfl) (fun p e s m below meth c C ls hw hl => ?_)
  have hl : lv_has ls 4 [(0, .ref (q 15)), (1, .ref (q 21)), (2, .int (zI x2))] := hl
  rw [pX4_loadFrom_a21] at hf
  exact wX4_loadFrom_a21_0 C (rtV C) σ x2 _ _ ls hw (lv_sub hl [0, 1, 2] rfl) hf
abbrev rmX3_show : Room := { frames := 2, cells := 0, slots := 0, locals := 83 }
set_option maxHeartbeats 4000000 in
set_option maxRecDepth 100000 in
theorem wX3_show_0 {p : Program} {l : Launch} {e : Env} {s : State} {m : MethodId} {args : Array Value} {below : List Frame} {meth : Method} {c : Code} {D : va_G} {A : Nat → Prop} {q : Nat → Nat} {cI cZ : ClassId} {Q : State → Prop} {τ : St} (C : Cx p s m args meth c D (TY cI cZ) cX3_show none 3 wsX3_show RX3) (hret : RtV p l e rmX3_show s m args below meth c D A cX3_show Q (wE q cI cZ τ)) :
    ∀ (σ : St) (x1 : Int) (H : Heap) (locs : List Loc) (ls : Array Slot), Wd D A s (wE q cI cZ σ) H locs → lv_has ls 3 [(0, .ref (q 20)), (1, .int (zI x1)), (2, .ref (q 15))] → pX3_show_0 σ x1 = some τ → W p l e rmX3_show s m args below meth c H locs 0 0 Q (F0 m 0 ls []) := by
  obtain ⟨hx, hb, hr, hml, hown, hts, hlk, hK, hN⟩ := id C
  intro σ x1 H locs ls hw hl hf
  rw [pX3_show_0] at hf
  refine lv_aload_n hx hb dX3_show_0 rfl (lv_at hl 0 rfl) ?_
  refine lv_iload_n hx hb dX3_show_1 rfl (lv_at hl 1 rfl) ?_
  obtain ⟨r2, h2, hf⟩ := bd_s hf
  replace hf := bt_s hf
  refine gVi (As := [.int (zI x1)]) (rest := []) C hw (tX3_has h2) (cwV 1 hts gX3_show_X3_has rfl rfl rfl (by decide +kernel) ⟨Nat.le_of_ble_eq_true rfl, Nat.le_of_ble_eq_true rfl⟩) 3 20 rfl rfl rfl hl.1 rfl (Nat.le_of_ble_eq_true rfl) dX3_show_2 (fun H locs hw => ?_)
  obtain ⟨hg5, hf⟩ := gd_s hf
  refine zv_if_eq (tgt := 20) hx hb hg5 dX3_show_5 (by decide) (fun (c5 : r2 = 0) => ?_) (fun (c5 : ¬ (r2 = 0)) => ?_)
  · rw [if_pos c5] at hf
    cases hf
    exact hret H locs ls 20 dX3_show_20 hw
  · rw [if_neg c5] at hf
    refine lv_aload_n hx hb dX3_show_8 rfl (lv_at hl 2 rfl) ?_
    refine lv_aload_n hx hb dX3_show_9 rfl (lv_at hl 0 rfl) ?_
    refine va_get (D := D) (ci := 3) (v := .ref (q 21)) (C := RX3) (T := TX3) (N := 3) hx hb hts (fun _ h => List.mem_cons_of_mem _ (List.mem_append_left _ (List.mem_append_right _ h))) hown hK hw.1 20 rfl rfl 0 (by decide) (hts (.fieldLink RX3 11 "EggThrones$Images" "rows" "[I") (List.mem_of_getElem? (i := 1) rfl)) (fun _ h9 => h9) rfl dX3_show_10 ?_
    refine lv_iload_n hx hb dX3_show_13 rfl (lv_at hl 1 rfl) ?_
    refine lv_bipush (v := zI 20) hx hb dX3_show_14 (by decide +kernel) ?_
    refine zv_imul hx hb dX3_show_16 ?_
    obtain ⟨σ17, h17, hf⟩ := bd_s hf
    replace hf := bt_s hf
    refine gVv (As := [.ref (q 21), .int (zI (x1 * 20))]) (rest := []) C hw (tX4_loadFrom_a21 h17) (cwV 2 hts gX3_show_X4_loadFrom rfl rfl rfl (by decide +kernel) ⟨Nat.le_of_ble_eq_true rfl, Nat.le_of_ble_eq_true rfl⟩) 4 15 rfl rfl rfl hl.1 rfl (Nat.le_of_ble_eq_true rfl) dX3_show_17 (fun H locs hw => ?_)
    cases hf
    exact hret H locs ls 20 dX3_show_20 hw
set_option maxHeartbeats 4000000 in
set_option maxRecDepth 100000 in
theorem tX3_show {l : Launch} {D : va_G} {A : Nat → Prop} {cI cZ : ClassId} {q : Nat → Nat} {σ : St} {x1 : Int} {τ : St} (hf : pX3_show σ x1 = some τ) : Met l yX3_show wsX3_show rmX3_show (va_Pc [.ref (q 20), .int (zI x1), .ref (q 15)] (CX D (TY cI cZ) A (wE q cI cZ σ))) (QV D (TY cI cZ) A (wE q cI cZ τ)) 0 0 A := by
  refine opn (cc := cX3_show) (maxL := 3) (ret := none) (by decide) rfl (Nat.le_of_ble_eq_true rfl) (fun p e s m below meth c C ls hw hl => ?_)
  have hl : lv_has ls 3 [(0, .ref (q 20)), (1, .int (zI x1)), (2, .ref (q 15))] := hl
  rw [pX3_show] at hf
  exact wX3_show_0 C (rtV C) σ x1 _ _ ls hw (lv_sub hl [0, 1, 2] rfl) hf
abbrev rmX3_seedOf : Room := { frames := 1, cells := 0, slots := 0, locals := 21 }
set_option maxHeartbeats 4000000 in
set_option maxRecDepth 100000 in
theorem wX3_seedOf_0 {p : Program} {l : Launch} {e : Env} {s : State} {m : MethodId} {args : Array Value} {below : List Frame} {meth : Method} {c : Code} {D : va_G} {A : Nat → Prop} {q : Nat → Nat} {cI cZ : ClassId} {Q : State → Prop} {σ : St} {r : Int} (C : Cx p s m args meth c D (TY cI cZ) cX3_seedOf (some .int) 2 wsX3_seedOf RX3) (hret : RtI p l e rmX3_seedOf s m args below meth c D A cX3_seedOf Q (wE q cI cZ σ) (zI r)) :
    ∀ (x1 : Int) (H : Heap) (locs : List Loc) (ls : Array Slot), Wd D A s (wE q cI cZ σ) H locs → lv_has ls 2 [(0, .ref (q 20)), (1, .int (zI x1))] → pX3_seedOf_0 σ x1 = some r → W p l e rmX3_seedOf s m args below meth c H locs 0 0 Q (F0 m 0 ls []) := by
  obtain ⟨hx, hb, hr, hml, hown, hts, hlk, hK, hN⟩ := id C
  intro x1 H locs ls hw hl hf
  rw [pX3_seedOf_0] at hf
  refine lv_aload_n hx hb dX3_seedOf_0 rfl (lv_at hl 0 rfl) ?_
  refine lv_iload_n hx hb dX3_seedOf_1 rfl (lv_at hl 1 rfl) ?_
  obtain ⟨r2, h2, hf⟩ := bd_s hf
  replace hf := bt_s hf
  refine gVi (As := [.int (zI x1)]) (rest := []) C hw (tX3_has h2) (cwV 1 hts gX3_seedOf_X3_has rfl rfl rfl (by decide +kernel) ⟨Nat.le_of_ble_eq_true rfl, Nat.le_of_ble_eq_true rfl⟩) 3 20 rfl rfl rfl hl.1 rfl (Nat.le_of_ble_eq_true rfl) dX3_seedOf_2 (fun H locs hw => ?_)
  obtain ⟨hg5, hf⟩ := gd_s hf
  refine zv_if_eq (tgt := 17) hx hb hg5 dX3_seedOf_5 (by decide) (fun (c5 : r2 = 0) => ?_) (fun (c5 : ¬ (r2 = 0)) => ?_)
  · rw [if_pos c5] at hf
    refine lv_iconst (v := zI 0) hx hb dX3_seedOf_17 rfl ?_
    cases hf
    exact hret H locs ls 18 dX3_seedOf_18 hw
  · rw [if_neg c5] at hf
    refine lv_aload_n hx hb dX3_seedOf_8 rfl (lv_at hl 0 rfl) ?_
    refine va_get (D := D) (ci := 3) (v := .ref (q 22)) (C := RX3) (T := TX3) (N := 3) hx hb hts (fun _ h => List.mem_cons_of_mem _ (List.mem_append_right _ h)) hown hK hw.1 20 rfl rfl 1 (by decide) (hts (.fieldLink RX3 17 "EggThrones$Images" "seeds" "[I") (List.mem_of_getElem? (i := 1) rfl)) (fun _ h9 => h9) rfl dX3_seedOf_9 ?_
    refine lv_iload_n hx hb dX3_seedOf_12 rfl (lv_at hl 1 rfl) ?_
    obtain ⟨hi13, hf⟩ := gd_s hf
    refine zv_iald (D := D) hx hb hK hw.1 22 0 rfl rfl hi13 (by decide) dX3_seedOf_13 ?_
    refine lv_goto (tgt := 18) hx hb dX3_seedOf_14 (by decide) ?_
    cases hf
    exact hret H locs ls 18 dX3_seedOf_18 hw
set_option maxHeartbeats 4000000 in
set_option maxRecDepth 100000 in
theorem tX3_seedOf {l : Launch} {D : va_G} {A : Nat → Prop} {cI cZ : ClassId} {q : Nat → Nat} {σ : St} {x1 : Int} {r : Int} (hf : pX3_seedOf σ x1 = some r) : Met l yX3_seedOf wsX3_seedOf rmX3_seedOf (va_Pc [.ref (q 20), .int (zI x1)] (CX D (TY cI cZ) A (wE q cI cZ σ))) (QI D (TY cI cZ) A (wE q cI cZ σ) (zI r)) 0 0 A := by
  refine opn (cc := cX3_seedOf) (maxL := 2) (ret := (some .int)) (by decide) rfl (Nat.le_of_ble_eq_true rfl) (fun p e s m below meth c C ls hw hl => ?_)
  have hl : lv_has ls 2 [(0, .ref (q 20)), (1, .int (zI x1))] := hl
  rw [pX3_seedOf] at hf
  exact wX3_seedOf_0 C (rtI C) x1 _ _ ls hw (lv_sub hl [0, 1] rfl) hf
abbrev rmX10_goBack : Room := { frames := 3, cells := 0, slots := 0, locals := 105 }
set_option maxHeartbeats 4000000 in
set_option maxRecDepth 100000 in
theorem wX10_goBack_0 {p : Program} {l : Launch} {e : Env} {s : State} {m : MethodId} {args : Array Value} {below : List Frame} {meth : Method} {c : Code} {D : va_G} {A : Nat → Prop} {q : Nat → Nat} {cI cZ : ClassId} {Q : State → Prop} {r : Int} {τ : St} (C : Cx p s m args meth c D (TY cI cZ) cX10_goBack (some .int) 2 wsX10_goBack RX10) (hret : RtI p l e rmX10_goBack s m args below meth c D A cX10_goBack Q (wE q cI cZ τ) (zI r)) :
    ∀ (σ : St) (x1 : Int) (H : Heap) (locs : List Loc) (ls : Array Slot), Wd D A s (wE q cI cZ σ) H locs → lv_has ls 2 [(0, .ref (q 0)), (1, .int (zI x1))] → pX10_goBack_0 σ x1 = some (r, τ) → W p l e rmX10_goBack s m args below meth c H locs 0 0 Q (F0 m 0 ls []) := by
  obtain ⟨hx, hb, hr, hml, hown, hts, hlk, hK, hN⟩ := id C
  intro σ x1 H locs ls hw hl hf
  rw [pX10_goBack_0] at hf
  refine lv_iload_n hx hb dX10_goBack_0 rfl (lv_at hl 1 rfl) ?_
  refine lv_iconst (v := zI 0) hx hb dX10_goBack_1 rfl ?_
  refine lv_iconst (v := zI 1) hx hb dX10_goBack_2 rfl ?_
  obtain ⟨r3, h3, hf⟩ := bd_s hf
  replace hf := bt_s hf
  refine gSi (As := [.int (zI x1), .int (zI 0), .int (zI 1)]) (rest := []) C hw (tX10_isWithin h3) (va_cwS 3 hts gX10_goBack_X10_isWithin rfl rfl rfl (by decide +kernel) ⟨Nat.le_of_ble_eq_true rfl, Nat.le_of_ble_eq_true rfl⟩) rfl hl.1 rfl (Nat.le_of_ble_eq_true rfl) dX10_goBack_3 (fun H locs hw => ?_)
  obtain ⟨hg6, hf⟩ := gd_s hf
  refine zv_if_ne (tgt := 12) hx hb hg6 dX10_goBack_6 (by decide) (fun (c6 : ¬ (r3 = 0)) => ?_) (fun (c6 : r3 = 0) => ?_)
  · rw [if_neg c6] at hf
    refine lv_aload_n hx hb dX10_goBack_12 rfl (lv_at hl 0 rfl) ?_
    refine va_get (D := D) (ci := 10) (v := .ref (q 20)) (C := RX10) (T := TX10) (N := 13) hx hb hts (fun _ h => List.mem_cons_of_mem _ (List.mem_append_left _ (List.mem_append_left _ (List.mem_append_left _ (List.mem_append_right _ h))))) hown hK hw.1 0 rfl rfl 5 (by decide) (hts (.fieldLink RX10 45 "EggThrones" "images" "LEggThrones$Images;") (List.mem_of_getElem? (i := 2) rfl)) (fun _ h9 => h9) rfl dX10_goBack_13 ?_
    refine lv_iload_n hx hb dX10_goBack_16 rfl (lv_at hl 1 rfl) ?_
    obtain ⟨r17, h17, hf⟩ := bd_s hf
    replace hf := bt_s hf
    refine gVi (As := [.int (zI x1)]) (rest := []) C hw (tX3_has h17) (cwV 1 hts gX10_goBack_X3_has rfl rfl rfl (by decide +kernel) ⟨Nat.le_of_ble_eq_true rfl, Nat.le_of_ble_eq_true rfl⟩) 3 20 rfl rfl rfl hl.1 rfl (Nat.le_of_ble_eq_true rfl) dX10_goBack_17 (fun H locs hw => ?_)
    obtain ⟨hg20, hf⟩ := gd_s hf
    refine zv_if_ne (tgt := 26) hx hb hg20 dX10_goBack_20 (by decide) (fun (c20 : ¬ (r17 = 0)) => ?_) (fun (c20 : r17 = 0) => ?_)
    · rw [if_neg c20] at hf
      refine lv_aload_n hx hb dX10_goBack_26 rfl (lv_at hl 0 rfl) ?_
      refine va_get (D := D) (ci := 10) (v := .ref (q 20)) (C := RX10) (T := TX10) (N := 13) hx hb hts (fun _ h => List.mem_cons_of_mem _ (List.mem_append_left _ (List.mem_append_left _ (List.mem_append_left _ (List.mem_append_right _ h))))) hown hK hw.1 0 rfl rfl 5 (by decide) (hts (.fieldLink RX10 45 "EggThrones" "images" "LEggThrones$Images;") (List.mem_of_getElem? (i := 2) rfl)) (fun _ h9 => h9) rfl dX10_goBack_27 ?_
      refine lv_iload_n hx hb dX10_goBack_30 rfl (lv_at hl 1 rfl) ?_
      refine lv_aload_n hx hb dX10_goBack_31 rfl (lv_at hl 0 rfl) ?_
      refine va_get (D := D) (ci := 10) (v := .ref (q 15)) (C := RX10) (T := TX10) (N := 13) hx hb hts (fun _ h => List.mem_cons_of_mem _ (List.mem_append_left _ (List.mem_append_left _ (List.mem_append_left _ (List.mem_append_right _ h))))) hown hK hw.1 0 rfl rfl 3 (by decide) (hts (.fieldLink RX10 31 "EggThrones" "now" "LEggThrones$Morning;") (List.mem_of_getElem? (i := 4) rfl)) (fun _ h9 => h9) rfl dX10_goBack_32 ?_
      obtain ⟨σ35, h35, hf⟩ := bd_s hf
      replace hf := bt_s hf
      refine gVv (As := [.int (zI x1), .ref (q 15)]) (rest := []) C hw (tX3_show h35) (cwV 2 hts gX10_goBack_X3_show rfl rfl rfl (by decide +kernel) ⟨Nat.le_of_ble_eq_true rfl, Nat.le_of_ble_eq_true rfl⟩) 3 20 rfl rfl rfl hl.1 rfl (Nat.le_of_ble_eq_true rfl) dX10_goBack_35 (fun H locs hw => ?_)
      refine lv_aload_n hx hb dX10_goBack_38 rfl (lv_at hl 0 rfl) ?_
      refine lv_aload_n hx hb dX10_goBack_39 rfl (lv_at hl 0 rfl) ?_
      refine va_get (D := D) (ci := 10) (v := .ref (q 20)) (C := RX10) (T := TX10) (N := 13) hx hb hts (fun _ h => List.mem_cons_of_mem _ (List.mem_append_left _ (List.mem_append_left _ (List.mem_append_left _ (List.mem_append_right _ h))))) hown hK hw.1 0 rfl rfl 5 (by decide) (hts (.fieldLink RX10 45 "EggThrones" "images" "LEggThrones$Images;") (List.mem_of_getElem? (i := 2) rfl)) (fun _ h9 => h9) rfl dX10_goBack_40 ?_
      refine lv_iload_n hx hb dX10_goBack_43 rfl (lv_at hl 1 rfl) ?_
      obtain ⟨r44, h44, hf⟩ := bd_s hf
      replace hf := bt_s hf
      refine gVi (As := [.int (zI x1)]) (rest := [.ref (q 0)]) C hw (tX3_seedOf h44) (cwV 1 hts gX10_goBack_X3_seedOf rfl rfl rfl (by decide +kernel) ⟨Nat.le_of_ble_eq_true rfl, Nat.le_of_ble_eq_true rfl⟩) 3 20 rfl rfl rfl hl.1 rfl (Nat.le_of_ble_eq_true rfl) dX10_goBack_44 (fun H locs hw => ?_)
      refine va_put (D := D) (ci := 10) (v := .int (zI r44)) (ty := .int) (C := RX10) (T := TX10) (N := 13) hx hb hts (fun _ h => List.mem_cons_of_mem _ (List.mem_append_left _ (List.mem_append_left _ (List.mem_append_left _ (List.mem_append_right _ h))))) tyX10 tyX10_ok nmX10 hown hK hw.1 hw.2.1 hw.2.2 0 rfl rfl 12 (by decide) (hts (.fieldLink RX10 88 "EggThrones" "drawSeed" "I") (List.mem_of_getElem? (i := 5) rfl)) (fun _ h9 => h9) rfl (by decide +kernel) rfl rfl (Nat.le_of_ble_eq_true rfl) dX10_goBack_47 (fun H locs hP hD hS => ?_)
      have hw : Wd D A s (wE q cI cZ (sI σ35 1 r44)) H locs := wdiE_1 hP hD hS
      obtain ⟨σ47, e47, hf⟩ := nm_s hf
      replace hf := bt_s hf
      rw [← e47] at hw
      refine lv_aload_n hx hb dX10_goBack_50 rfl (lv_at hl 0 rfl) ?_
      refine va_get (D := D) (ci := 10) (v := .ref (q 18)) (C := RX10) (T := TX10) (N := 13) hx hb hts (fun _ h => List.mem_cons_of_mem _ (List.mem_append_left _ (List.mem_append_left _ (List.mem_append_left _ (List.mem_append_right _ h))))) hown hK hw.1 0 rfl rfl 4 (by decide) (hts (.fieldLink RX10 38 "EggThrones" "past" "LEggThrones$Past;") (List.mem_of_getElem? (i := 6) rfl)) (fun _ h9 => h9) rfl dX10_goBack_51 ?_
      obtain ⟨σ54, h54, hf⟩ := bd_s hf
      replace hf := bt_s hf
      refine gVv (As := []) (rest := []) C hw (tX5_forget h54) (cwV 0 hts gX10_goBack_X5_forget rfl rfl rfl (by decide +kernel) ⟨Nat.le_of_ble_eq_true rfl, Nat.le_of_ble_eq_true rfl⟩) 5 18 rfl rfl rfl hl.1 rfl (Nat.le_of_ble_eq_true rfl) dX10_goBack_54 (fun H locs hw => ?_)
      refine lv_iconst (v := zI 1) hx hb dX10_goBack_57 rfl ?_
      cases hf
      exact hret H locs ls 58 dX10_goBack_58 hw
    · rw [if_pos c20] at hf
      refine zv_ldc hx hb (-1000000003) (by decide +kernel) hown (hts (.constant RX10 219 (-1000000003)) (List.mem_of_getElem? (i := 3) rfl)) dX10_goBack_23 ?_
      cases hf
      exact hret H locs ls 25 dX10_goBack_25 hw
  · rw [if_pos c6] at hf
    refine zv_ldc hx hb (-1000000001) (by decide +kernel) hown (hts (.constant RX10 175 (-1000000001)) (List.mem_of_getElem? (i := 1) rfl)) dX10_goBack_9 ?_
    cases hf
    exact hret H locs ls 11 dX10_goBack_11 hw
set_option maxHeartbeats 4000000 in
set_option maxRecDepth 100000 in
theorem tX10_goBack {l : Launch} {D : va_G} {A : Nat → Prop} {cI cZ : ClassId} {q : Nat → Nat} {σ : St} {x1 : Int} {r : Int} {τ : St} (hf : pX10_goBack σ x1 = some (r, τ)) : Met l yX10_goBack wsX10_goBack rmX10_goBack (va_Pc [.ref (q 0), .int (zI x1)] (CX D (TY cI cZ) A (wE q cI cZ σ))) (QI D (TY cI cZ) A (wE q cI cZ τ) (zI r)) 0 0 A := by
  refine opn (cc := cX10_goBack) (maxL := 2) (ret := (some .int)) (by decide) rfl (Nat.le_of_ble_eq_true rfl) (fun p e s m below meth c C ls hw hl => ?_)
  have hl : lv_has ls 2 [(0, .ref (q 0)), (1, .int (zI x1))] := hl
  rw [pX10_goBack] at hf
  exact wX10_goBack_0 C (rtI C) σ x1 _ _ ls hw (lv_sub hl [0, 1] rfl) hf
abbrev rmX11_goBack : Room := { frames := 1, cells := 0, slots := 0, locals := 25 }
set_option maxHeartbeats 4000000 in
set_option maxRecDepth 100000 in
theorem wX11_goBack_27 {p : Program} {l : Launch} {e : Env} {s : State} {m : MethodId} {args : Array Value} {below : List Frame} {meth : Method} {c : Code} {D : va_G} {A : Nat → Prop} {q : Nat → Nat} {cI cZ : ClassId} {Q : State → Prop} {r : Int} {τ : St} (C : Cx p s m args meth c D (TY cI cZ) cX11_goBack (some .int) 3 wsX11_goBack RX11) (hret : RtI p l e rmX11_goBack s m args below meth c D A cX11_goBack Q (wM q cI cZ τ) (zI r)) :
    ∀ (n : Nat) (σ : St) (x1 : Int) (x2 : Int) (H : Heap) (locs : List Loc) (ls : Array Slot), Wd D A s (wM q cI cZ σ) H locs → lv_has ls 3 [(0, .ref (q 0)), (1, .int (zI x1)), (2, .int (zI x2))] → pX11_goBack_27 n σ x1 x2 = some (r, τ) → W p l e rmX11_goBack s m args below meth c H locs 0 0 Q (F0 m 27 ls []) := by
  obtain ⟨hx, hb, hr, hml, hown, hts, hlk, hK, hN⟩ := id C
  intro n
  induction n with
  | zero =>
    intro σ x1 x2 H locs ls hw hl hf
    exact absurd (show (none : Option (Int × St)) = some (r, τ) from hf) (by simp)
  | succ n ih =>
    intro σ x1 x2 H locs ls hw hl hf
    rw [pX11_goBack_27] at hf
    refine lv_iload_n hx hb dX11_goBack_27 rfl (lv_at hl 2 rfl) ?_
    refine lv_bipush (v := zI 19) hx hb dX11_goBack_28 (by decide +kernel) ?_
    obtain ⟨hg30, hf⟩ := gd_s hf
    refine zv_icmp_ge (tgt := 56) hx hb ⟨hg30, by decide⟩ dX11_goBack_30 (by decide) (fun (c30 : 19 ≤ x2) => ?_) (fun (c30 : ¬ (19 ≤ x2)) => ?_)
    · rw [if_pos c30] at hf
      refine lv_aload_n hx hb dX11_goBack_56 rfl (lv_at hl 0 rfl) ?_
      refine lv_aload_n hx hb dX11_goBack_57 rfl (lv_at hl 0 rfl) ?_
      refine va_get (D := D) (ci := 11) (v := .ref (q 24)) (C := RX11) (T := TX11) (N := 40) hx hb hts (fun _ h => List.mem_cons_of_mem _ (List.mem_append_right _ h)) hown hK hw.1 0 rfl rfl 38 (by decide) (hts (.fieldLink RX11 83 "EggThronesModel" "images" "[I") (List.mem_of_getElem? (i := 5) rfl)) (fun _ h9 => h9) rfl dX11_goBack_58 ?_
      refine lv_bipush (v := zI 20) hx hb dX11_goBack_61 (by decide +kernel) ?_
      refine lv_iload_n hx hb dX11_goBack_63 rfl (lv_at hl 1 rfl) ?_
      refine zv_imul hx hb dX11_goBack_64 ?_
      refine lv_bipush (v := zI 19) hx hb dX11_goBack_65 (by decide +kernel) ?_
      refine zv_iadd hx hb dX11_goBack_67 ?_
      obtain ⟨hi68, hf⟩ := gd_s hf
      refine zv_iald (D := D) hx hb hK hw.1 24 0 rfl rfl hi68 (by decide) dX11_goBack_68 ?_
      refine va_put (D := D) (ci := 11) (v := .int (zI (σ.2 23 (Int.toNat ((20 * x1) + 19))))) (ty := .int) (C := RX11) (T := TX11) (N := 40) hx hb hts (fun _ h => List.mem_cons_of_mem _ (List.mem_append_right _ h)) tyX11 tyX11_ok nmX11 hown hK hw.1 hw.2.1 hw.2.2 0 rfl rfl 10 (by decide) (hts (.fieldLink RX11 231 "EggThronesModel" "seed" "I") (List.mem_of_getElem? (i := 6) rfl)) (fun _ h9 => h9) rfl (by decide +kernel) rfl rfl (Nat.le_of_ble_eq_true rfl) dX11_goBack_69 (fun H locs hP hD hS => ?_)
      have hw : Wd D A s (wM q cI cZ (sI σ 4 (σ.2 23 (Int.toNat ((20 * x1) + 19))))) H locs := wdiM_4 hP hD hS
      obtain ⟨σ69, e69, hf⟩ := nm_s hf
      replace hf := bt_s hf
      rw [← e69] at hw
      refine lv_aload_n hx hb dX11_goBack_72 rfl (lv_at hl 0 rfl) ?_
      refine lv_iconst (v := zI 0) hx hb dX11_goBack_73 rfl ?_
      refine va_put (D := D) (ci := 11) (v := .int (zI 0)) (ty := .int) (C := RX11) (T := TX11) (N := 40) hx hb hts (fun _ h => List.mem_cons_of_mem _ (List.mem_append_right _ h)) tyX11 tyX11_ok nmX11 hown hK hw.1 hw.2.1 hw.2.2 0 rfl rfl 24 (by decide) (hts (.fieldLink RX11 168 "EggThronesModel" "undos" "I") (List.mem_of_getElem? (i := 7) rfl)) (fun _ h9 => h9) rfl (by decide +kernel) rfl rfl (Nat.le_of_ble_eq_true rfl) dX11_goBack_74 (fun H locs hP hD hS => ?_)
      have hw : Wd D A s (wM q cI cZ (sI σ69 12 0)) H locs := wdiM_12 hP hD hS
      obtain ⟨σ74, e74, hf⟩ := nm_s hf
      replace hf := bt_s hf
      rw [← e74] at hw
      refine lv_iconst (v := zI 1) hx hb dX11_goBack_77 rfl ?_
      cases hf
      exact hret H locs ls 78 dX11_goBack_78 hw
    · rw [if_neg c30] at hf
      refine lv_aload_n hx hb dX11_goBack_33 rfl (lv_at hl 0 rfl) ?_
      refine va_get (D := D) (ci := 11) (v := .ref (q 6)) (C := RX11) (T := TX11) (N := 40) hx hb hts (fun _ h => List.mem_cons_of_mem _ (List.mem_append_right _ h)) hown hK hw.1 0 rfl rfl 9 (by decide) (hts (.fieldLink RX11 25 "EggThronesModel" "now" "[I") (List.mem_of_getElem? (i := 4) rfl)) (fun _ h9 => h9) rfl dX11_goBack_34 ?_
      refine lv_iload_n hx hb dX11_goBack_37 rfl (lv_at hl 2 rfl) ?_
      refine lv_aload_n hx hb dX11_goBack_38 rfl (lv_at hl 0 rfl) ?_
      refine va_get (D := D) (ci := 11) (v := .ref (q 24)) (C := RX11) (T := TX11) (N := 40) hx hb hts (fun _ h => List.mem_cons_of_mem _ (List.mem_append_right _ h)) hown hK hw.1 0 rfl rfl 38 (by decide) (hts (.fieldLink RX11 83 "EggThronesModel" "images" "[I") (List.mem_of_getElem? (i := 5) rfl)) (fun _ h9 => h9) rfl dX11_goBack_39 ?_
      refine lv_bipush (v := zI 20) hx hb dX11_goBack_42 (by decide +kernel) ?_
      refine lv_iload_n hx hb dX11_goBack_44 rfl (lv_at hl 1 rfl) ?_
      refine zv_imul hx hb dX11_goBack_45 ?_
      refine lv_iload_n hx hb dX11_goBack_46 rfl (lv_at hl 2 rfl) ?_
      refine zv_iadd hx hb dX11_goBack_47 ?_
      obtain ⟨hi48, hf⟩ := gd_s hf
      refine zv_iald (D := D) hx hb hK hw.1 24 0 rfl rfl hi48 (by decide) dX11_goBack_48 ?_
      obtain ⟨hi49, hf⟩ := gd_s hf
      refine zv_iast (D := D) hx hb hK hw.1 hw.2.1 hw.2.2 6 0 rfl rfl hi49 (by decide) dX11_goBack_49 (fun H locs hP hD hS => ?_)
      have hw : Wd D A s (wM q cI cZ (sA σ 5 (va_up (σ.2 5) (Int.toNat x2) (σ.2 23 (Int.toNat ((20 * x1) + x2)))))) H locs := wdaM_5 hP hD hS
      obtain ⟨σ49, e49, hf⟩ := nm_s hf
      replace hf := bt_s hf
      rw [← e49] at hw
      refine lv_iinc (v := zI (x2 + 1)) (lv' := [(2, .int (zI (x2 + 1))), (0, .ref (q 0)), (1, .int (zI x1))]) hx hb dX11_goBack_50 hl (k := 2) rfl (zI_add _ _) (by decide) rfl (fun ls hl => ?_)
      refine lv_goto (tgt := 27) hx hb dX11_goBack_53 (by decide) ?_
      exact ih σ49 x1 (x2 + 1) H locs ls hw (lv_sub hl [1, 2, 0] rfl) hf
set_option maxHeartbeats 4000000 in
set_option maxRecDepth 100000 in
theorem wX11_goBack_0 {p : Program} {l : Launch} {e : Env} {s : State} {m : MethodId} {args : Array Value} {below : List Frame} {meth : Method} {c : Code} {D : va_G} {A : Nat → Prop} {q : Nat → Nat} {cI cZ : ClassId} {Q : State → Prop} {r : Int} {τ : St} (C : Cx p s m args meth c D (TY cI cZ) cX11_goBack (some .int) 3 wsX11_goBack RX11) (hret : RtI p l e rmX11_goBack s m args below meth c D A cX11_goBack Q (wM q cI cZ τ) (zI r)) :
    ∀ (σ : St) (x1 : Int) (H : Heap) (locs : List Loc) (ls : Array Slot), Wd D A s (wM q cI cZ σ) H locs → lv_has ls 3 [(0, .ref (q 0)), (1, .int (zI x1))] → pX11_goBack_0 σ x1 = some (r, τ) → W p l e rmX11_goBack s m args below meth c H locs 0 0 Q (F0 m 0 ls []) := by
  obtain ⟨hx, hb, hr, hml, hown, hts, hlk, hK, hN⟩ := id C
  intro σ x1 H locs ls hw hl hf
  rw [pX11_goBack_0] at hf
  refine lv_iload_n hx hb dX11_goBack_0 rfl (lv_at hl 1 rfl) ?_
  obtain ⟨hz1, hf⟩ := gd_s hf
  refine zv_i2l hx hb hz1 dX11_goBack_1 ?_
  refine lv_lconst (v := zL 0) hx hb dX11_goBack_2 (by decide +kernel) ?_
  refine lv_lconst (v := zL 1) hx hb dX11_goBack_3 (by decide +kernel) ?_
  obtain ⟨r4, h4, hf⟩ := bd_s hf
  replace hf := bt_s hf
  refine gSi (As := [.long (zL x1), .long (zL 0), .long (zL 1)]) (rest := []) C hw (tX11_in h4) (va_cwS 3 hts gX11_goBack_X11_in rfl rfl rfl (by decide +kernel) ⟨Nat.le_of_ble_eq_true rfl, Nat.le_of_ble_eq_true rfl⟩) rfl hl.1 rfl (Nat.le_of_ble_eq_true rfl) dX11_goBack_4 (fun H locs hw => ?_)
  obtain ⟨hg7, hf⟩ := gd_s hf
  refine zv_if_ne (tgt := 13) hx hb hg7 dX11_goBack_7 (by decide) (fun (c7 : ¬ (r4 = 0)) => ?_) (fun (c7 : r4 = 0) => ?_)
  · rw [if_neg c7] at hf
    refine lv_aload_n hx hb dX11_goBack_13 rfl (lv_at hl 0 rfl) ?_
    refine va_get (D := D) (ci := 11) (v := .ref (q 25)) (C := RX11) (T := TX11) (N := 40) hx hb hts (fun _ h => List.mem_cons_of_mem _ (List.mem_append_right _ h)) hown hK hw.1 0 rfl rfl 39 (by decide) (hts (.fieldLink RX11 86 "EggThronesModel" "isKept" "[Z") (List.mem_of_getElem? (i := 2) rfl)) (fun _ h9 => h9) rfl dX11_goBack_14 ?_
    refine lv_iload_n hx hb dX11_goBack_17 rfl (lv_at hl 1 rfl) ?_
    obtain ⟨hi18, hf⟩ := gd_s hf
    refine zv_zald (D := D) hx hb hK hw.1 25 1 rfl rfl hi18 (by decide) dX11_goBack_18 ?_
    obtain ⟨hg19, hf⟩ := gd_s hf
    refine zv_if_ne (tgt := 25) hx hb hg19 dX11_goBack_19 (by decide) (fun (c19 : ¬ ((σ.2 24 (Int.toNat x1)) = 0)) => ?_) (fun (c19 : (σ.2 24 (Int.toNat x1)) = 0) => ?_)
    · rw [if_neg c19] at hf
      refine lv_iconst (v := zI 0) hx hb dX11_goBack_25 rfl ?_
      refine lv_istore_n (lv' := [(2, .int (zI 0)), (0, .ref (q 0)), (1, .int (zI x1))]) hx hb dX11_goBack_26 rfl hl (by decide) rfl (fun ls hl => ?_)
      exact wX11_goBack_27 C hret FU σ x1 0 H locs ls hw (lv_sub hl [1, 2, 0] rfl) hf
    · rw [if_pos c19] at hf
      refine zv_ldc hx hb (-1000000003) (by decide +kernel) hown (hts (.constant RX11 206 (-1000000003)) (List.mem_of_getElem? (i := 3) rfl)) dX11_goBack_22 ?_
      cases hf
      exact hret H locs ls 24 dX11_goBack_24 hw
  · rw [if_pos c7] at hf
    refine zv_ldc hx hb (-1000000001) (by decide +kernel) hown (hts (.constant RX11 200 (-1000000001)) (List.mem_of_getElem? (i := 1) rfl)) dX11_goBack_10 ?_
    cases hf
    exact hret H locs ls 12 dX11_goBack_12 hw
set_option maxHeartbeats 4000000 in
set_option maxRecDepth 100000 in
theorem tX11_goBack {l : Launch} {D : va_G} {A : Nat → Prop} {cI cZ : ClassId} {q : Nat → Nat} {σ : St} {x1 : Int} {r : Int} {τ : St} (hf : pX11_goBack σ x1 = some (r, τ)) : Met l yX11_goBack wsX11_goBack rmX11_goBack (va_Pc [.ref (q 0), .int (zI x1)] (CX D (TY cI cZ) A (wM q cI cZ σ))) (QI D (TY cI cZ) A (wM q cI cZ τ) (zI r)) 0 0 A := by
  refine opn (cc := cX11_goBack) (maxL := 3) (ret := (some .int)) (by decide) rfl (Nat.le_of_ble_eq_true rfl) (fun p e s m below meth c C ls hw hl => ?_)
  have hl : lv_has ls 3 [(0, .ref (q 0)), (1, .int (zI x1))] := hl
  rw [pX11_goBack] at hf
  exact wX11_goBack_0 C (rtI C) σ x1 _ _ ls hw (lv_sub hl [0, 1] rfl) hf
