abbrev rmX5_remember : Room := { frames := 2, cells := 0, slots := 0, locals := 83 }
set_option maxHeartbeats 4000000 in
set_option maxRecDepth 100000 in
theorem wX5_remember_0 {p : Program} {l : Launch} {e : Env} {s : State} {m : MethodId} {args : Array Value} {below : List Frame} {meth : Method} {c : Code} {D : va_G} {A : Nat → Prop} {q : Nat → Nat} {cI cZ : ClassId} {Q : State → Prop} {τ : St} (C : Cx p s m args meth c D (TY cI cZ) cX5_remember none 3 wsX5_remember RX5) (hret : RtV p l e rmX5_remember s m args below meth c D A cX5_remember Q (wE q cI cZ τ)) :
    ∀ (σ : St) (H : Heap) (locs : List Loc) (ls : Array Slot), Wd D A s (wE q cI cZ σ) H locs → lv_has ls 3 [(0, .ref (q 18)), (1, .ref (q 15))] → pX5_remember_0 σ = some τ → W p l e rmX5_remember s m args below meth c H locs 0 0 Q (F0 m 0 ls []) := by
  obtain ⟨hx, hb, hr, hml, hown, hts, hlk, hK, hN⟩ := id C
  intro σ H locs ls hw hl hf
  rw [pX5_remember_0] at hf
  refine lv_aload_n hx hb dX5_remember_0 rfl (lv_at hl 0 rfl) ?_
  refine va_get (D := D) (ci := 5) (v := .int (zI (σ.1 22))) (C := RX5) (T := TX5) (N := 3) hx hb hts (fun _ h => List.mem_cons_of_mem _ (List.mem_append_left _ (List.mem_append_right _ h))) hown hK hw.1 18 rfl rfl 1 (by decide) (hts (.fieldLink RX5 17 "EggThrones$Past" "oldest" "I") (List.mem_of_getElem? (i := 1) rfl)) (fun _ h9 => h9) rfl dX5_remember_1 ?_
  refine lv_aload_n hx hb dX5_remember_4 rfl (lv_at hl 0 rfl) ?_
  refine va_get (D := D) (ci := 5) (v := .int (zI (σ.1 23))) (C := RX5) (T := TX5) (N := 3) hx hb hts (fun _ h => List.mem_cons_of_mem _ (List.mem_append_left _ (List.mem_append_right _ h))) hown hK hw.1 18 rfl rfl 2 (by decide) (hts (.fieldLink RX5 21 "EggThrones$Past" "count" "I") (List.mem_of_getElem? (i := 2) rfl)) (fun _ h9 => h9) rfl dX5_remember_5 ?_
  refine zv_iadd hx hb dX5_remember_8 ?_
  refine lv_bipush (v := zI 20) hx hb dX5_remember_9 (by decide +kernel) ?_
  obtain ⟨hz11, hf⟩ := gd_s hf
  refine zv_irem hx hb hz11 dX5_remember_11 ?_
  refine lv_istore_n (lv' := [(2, .int (zI (((σ.1 22) + (σ.1 23)) % 20))), (0, .ref (q 18)), (1, .ref (q 15))]) hx hb dX5_remember_12 rfl hl (by decide) rfl (fun ls hl => ?_)
  refine lv_aload_n hx hb dX5_remember_13 rfl (lv_at hl 2 rfl) ?_
  refine lv_aload_n hx hb dX5_remember_14 rfl (lv_at hl 1 rfl) ?_
  refine va_get (D := D) (ci := 5) (v := .ref (q 19)) (C := RX5) (T := TX5) (N := 3) hx hb hts (fun _ h => List.mem_cons_of_mem _ (List.mem_append_left _ (List.mem_append_right _ h))) hown hK hw.1 18 rfl rfl 0 (by decide) (hts (.fieldLink RX5 11 "EggThrones$Past" "rows" "[I") (List.mem_of_getElem? (i := 3) rfl)) (fun _ h9 => h9) rfl dX5_remember_15 ?_
  refine lv_iload_n hx hb dX5_remember_18 rfl (lv_at hl 0 rfl) ?_
  refine lv_bipush (v := zI 20) hx hb dX5_remember_19 (by decide +kernel) ?_
  refine zv_imul hx hb dX5_remember_21 ?_
  obtain ⟨σ22, h22, hf⟩ := bd_s hf
  replace hf := bt_s hf
  refine gVv (As := [.ref (q 19), .int (zI ((((σ.1 22) + (σ.1 23)) % 20) * 20))]) (rest := []) C hw (tX4_saveTo_a19 h22) (cwV 2 hts gX5_remember_X4_saveTo rfl rfl rfl (by decide +kernel) ⟨Nat.le_of_ble_eq_true rfl, Nat.le_of_ble_eq_true rfl⟩) 4 15 rfl rfl rfl hl.1 rfl (Nat.le_of_ble_eq_true rfl) dX5_remember_22 (fun H locs hw => ?_)
  refine lv_aload_n hx hb dX5_remember_25 rfl (lv_at hl 1 rfl) ?_
  refine va_get (D := D) (ci := 5) (v := .int (zI (σ22.1 23))) (C := RX5) (T := TX5) (N := 3) hx hb hts (fun _ h => List.mem_cons_of_mem _ (List.mem_append_left _ (List.mem_append_right _ h))) hown hK hw.1 18 rfl rfl 2 (by decide) (hts (.fieldLink RX5 21 "EggThrones$Past" "count" "I") (List.mem_of_getElem? (i := 2) rfl)) (fun _ h9 => h9) rfl dX5_remember_26 ?_
  refine lv_bipush (v := zI 20) hx hb dX5_remember_29 (by decide +kernel) ?_
  obtain ⟨hg31, hf⟩ := gd_s hf
  refine zv_icmp_ge (tgt := 47) hx hb ⟨hg31, by decide⟩ dX5_remember_31 (by decide) (fun (c31 : 20 ≤ (σ22.1 23)) => ?_) (fun (c31 : ¬ (20 ≤ (σ22.1 23))) => ?_)
  · rw [if_pos c31] at hf
    refine lv_aload_n hx hb dX5_remember_47 rfl (lv_at hl 1 rfl) ?_
    refine lv_aload_n hx hb dX5_remember_48 rfl (lv_at hl 1 rfl) ?_
    refine va_get (D := D) (ci := 5) (v := .int (zI (σ22.1 22))) (C := RX5) (T := TX5) (N := 3) hx hb hts (fun _ h => List.mem_cons_of_mem _ (List.mem_append_left _ (List.mem_append_right _ h))) hown hK hw.1 18 rfl rfl 1 (by decide) (hts (.fieldLink RX5 17 "EggThrones$Past" "oldest" "I") (List.mem_of_getElem? (i := 1) rfl)) (fun _ h9 => h9) rfl dX5_remember_49 ?_
    refine lv_iconst (v := zI 1) hx hb dX5_remember_52 rfl ?_
    refine zv_iadd hx hb dX5_remember_53 ?_
    refine lv_bipush (v := zI 20) hx hb dX5_remember_54 (by decide +kernel) ?_
    obtain ⟨hz56, hf⟩ := gd_s hf
    refine zv_irem hx hb hz56 dX5_remember_56 ?_
    refine va_put (D := D) (ci := 5) (v := .int (zI (((σ22.1 22) + 1) % 20))) (ty := .int) (C := RX5) (T := TX5) (N := 3) hx hb hts (fun _ h => List.mem_cons_of_mem _ (List.mem_append_left _ (List.mem_append_right _ h))) tyX5 tyX5_ok nmX5 hown hK hw.1 hw.2.1 hw.2.2 18 rfl rfl 1 (by decide) (hts (.fieldLink RX5 17 "EggThrones$Past" "oldest" "I") (List.mem_of_getElem? (i := 1) rfl)) (fun _ h9 => h9) rfl (by decide +kernel) rfl rfl (Nat.le_of_ble_eq_true rfl) dX5_remember_57 (fun H locs hP hD hS => ?_)
    have hw : Wd D A s (wE q cI cZ (sI σ22 22 (((σ22.1 22) + 1) % 20))) H locs := wdiE_22 hP hD hS
    obtain ⟨σ57, e57, hf⟩ := nm_s hf
    replace hf := bt_s hf
    rw [← e57] at hw
    cases hf
    exact hret H locs ls 60 dX5_remember_60 hw
  · rw [if_neg c31] at hf
    refine lv_aload_n hx hb dX5_remember_34 rfl (lv_at hl 1 rfl) ?_
    refine lv_dup hx hb dX5_remember_35 rfl ?_
    refine va_get (D := D) (ci := 5) (v := .int (zI (σ22.1 23))) (C := RX5) (T := TX5) (N := 3) hx hb hts (fun _ h => List.mem_cons_of_mem _ (List.mem_append_left _ (List.mem_append_right _ h))) hown hK hw.1 18 rfl rfl 2 (by decide) (hts (.fieldLink RX5 21 "EggThrones$Past" "count" "I") (List.mem_of_getElem? (i := 2) rfl)) (fun _ h9 => h9) rfl dX5_remember_36 ?_
    refine lv_iconst (v := zI 1) hx hb dX5_remember_39 rfl ?_
    refine zv_iadd hx hb dX5_remember_40 ?_
    refine va_put (D := D) (ci := 5) (v := .int (zI ((σ22.1 23) + 1))) (ty := .int) (C := RX5) (T := TX5) (N := 3) hx hb hts (fun _ h => List.mem_cons_of_mem _ (List.mem_append_left _ (List.mem_append_right _ h))) tyX5 tyX5_ok nmX5 hown hK hw.1 hw.2.1 hw.2.2 18 rfl rfl 2 (by decide) (hts (.fieldLink RX5 21 "EggThrones$Past" "count" "I") (List.mem_of_getElem? (i := 2) rfl)) (fun _ h9 => h9) rfl (by decide +kernel) rfl rfl (Nat.le_of_ble_eq_true rfl) dX5_remember_41 (fun H locs hP hD hS => ?_)
    have hw : Wd D A s (wE q cI cZ (sI σ22 23 ((σ22.1 23) + 1))) H locs := wdiE_23 hP hD hS
    obtain ⟨σ41, e41, hf⟩ := nm_s hf
    replace hf := bt_s hf
    rw [← e41] at hw
    refine lv_goto (tgt := 60) hx hb dX5_remember_44 (by decide) ?_
    cases hf
    exact hret H locs ls 60 dX5_remember_60 hw
set_option maxHeartbeats 4000000 in
set_option maxRecDepth 100000 in
theorem tX5_remember {l : Launch} {D : va_G} {A : Nat → Prop} {cI cZ : ClassId} {q : Nat → Nat} {σ : St} {τ : St} (hf : pX5_remember σ = some τ) : Met l yX5_remember wsX5_remember rmX5_remember (va_Pc [.ref (q 18), .ref (q 15)] (CX D (TY cI cZ) A (wE q cI cZ σ))) (QV D (TY cI cZ) A (wE q cI cZ τ)) 0 0 A := by
  refine opn (cc := cX5_remember) (maxL := 3) (ret := none) (by decide) rfl (Nat.le_of_ble_eq_true rfl) (fun p e s m below meth c C ls hw hl => ?_)
  have hl : lv_has ls 3 [(0, .ref (q 18)), (1, .ref (q 15))] := hl
  rw [pX5_remember] at hf
  exact wX5_remember_0 C (rtV C) σ _ _ ls hw (lv_sub hl [0, 1] rfl) hf
abbrev rmX10_minute : Room := { frames := 5, cells := 0, slots := 0, locals := 105 }
set_option maxHeartbeats 4000000 in
set_option maxRecDepth 100000 in
theorem wX10_minute_25 {p : Program} {l : Launch} {e : Env} {s : State} {m : MethodId} {args : Array Value} {below : List Frame} {meth : Method} {c : Code} {D : va_G} {A : Nat → Prop} {q : Nat → Nat} {cI cZ : ClassId} {Q : State → Prop} {r : Int} {τ : St} (C : Cx p s m args meth c D (TY cI cZ) cX10_minute (some .int) 4 wsX10_minute RX10) (hret : RtI p l e rmX10_minute s m args below meth c D A cX10_minute Q (wE q cI cZ τ) (zI r)) :
    ∀ (n : Nat) (σ : St) (x1 : Int) (x3 : Int) (H : Heap) (locs : List Loc) (ls : Array Slot), Wd D A s (wE q cI cZ σ) H locs → lv_has ls 4 [(0, .ref (q 0)), (1, .int (zI x1)), (3, .int (zI x3))] → pX10_minute_25 n σ x1 x3 = some (r, τ) → W p l e rmX10_minute s m args below meth c H locs 0 0 Q (F0 m 25 ls []) := by
  obtain ⟨hx, hb, hr, hml, hown, hts, hlk, hK, hN⟩ := id C
  intro n
  induction n with
  | zero =>
    intro σ x1 x3 H locs ls hw hl hf
    exact absurd (show (none : Option (Int × St)) = some (r, τ) from hf) (by simp)
  | succ n ih =>
    intro σ x1 x3 H locs ls hw hl hf
    rw [pX10_minute_25] at hf
    refine lv_iload_n hx hb dX10_minute_25 rfl (lv_at hl 2 rfl) ?_
    refine lv_iload_n hx hb dX10_minute_26 rfl (lv_at hl 1 rfl) ?_
    obtain ⟨hg27, hf⟩ := gd_s hf
    refine zv_icmp_ge (tgt := 43) hx hb hg27 dX10_minute_27 (by decide) (fun (c27 : x1 ≤ x3) => ?_) (fun (c27 : ¬ (x1 ≤ x3)) => ?_)
    · rw [if_pos c27] at hf
      refine lv_aload_n hx hb dX10_minute_43 rfl (lv_at hl 0 rfl) ?_
      refine va_get (D := D) (ci := 10) (v := .ref (q 15)) (C := RX10) (T := TX10) (N := 13) hx hb hts (fun _ h => List.mem_cons_of_mem _ (List.mem_append_left _ (List.mem_append_left _ (List.mem_append_left _ (List.mem_append_right _ h))))) hown hK hw.1 0 rfl rfl 3 (by decide) (hts (.fieldLink RX10 31 "EggThrones" "now" "LEggThrones$Morning;") (List.mem_of_getElem? (i := 2) rfl)) (fun _ h9 => h9) rfl dX10_minute_44 ?_
      refine va_getN (D := D) (ci := 4) (v := .int (zI (σ.1 19))) (C := RX4) (T := TX4) (N := 9) hx hb hts (fun _ h => List.mem_cons_of_mem _ (List.mem_append_left _ (List.mem_append_left _ (List.mem_append_right _ h)))) hown hK hw.1 15 rfl rfl 6 (by decide) (va_Nw.use rfl (hN (.fieldLinkNest "EggThrones" 142 "EggThrones$Morning" "minutes" "I" "EggThrones") (by decide +kernel))) (fun _ h9 => h9) rfl dX10_minute_47 ?_
      cases hf
      exact hret H locs ls 50 dX10_minute_50 hw
    · rw [if_neg c27] at hf
      refine lv_aload_n hx hb dX10_minute_30 rfl (lv_at hl 0 rfl) ?_
      refine va_get (D := D) (ci := 10) (v := .ref (q 15)) (C := RX10) (T := TX10) (N := 13) hx hb hts (fun _ h => List.mem_cons_of_mem _ (List.mem_append_left _ (List.mem_append_left _ (List.mem_append_left _ (List.mem_append_right _ h))))) hown hK hw.1 0 rfl rfl 3 (by decide) (hts (.fieldLink RX10 31 "EggThrones" "now" "LEggThrones$Morning;") (List.mem_of_getElem? (i := 2) rfl)) (fun _ h9 => h9) rfl dX10_minute_31 ?_
      obtain ⟨σ34, h34, hf⟩ := bd_s hf
      replace hf := bt_s hf
      refine gVv (As := []) (rest := []) C hw (tX4_passMinute h34) (cwV 0 hts gX10_minute_X4_passMinute rfl rfl rfl (by decide +kernel) ⟨Nat.le_of_ble_eq_true rfl, Nat.le_of_ble_eq_true rfl⟩) 4 15 rfl rfl rfl hl.1 rfl (Nat.le_of_ble_eq_true rfl) dX10_minute_34 (fun H locs hw => ?_)
      refine lv_iinc (v := zI (x3 + 1)) (lv' := [(3, .int (zI (x3 + 1))), (0, .ref (q 0)), (1, .int (zI x1))]) hx hb dX10_minute_37 hl (k := 2) rfl (zI_add _ _) (by decide) rfl (fun ls hl => ?_)
      refine lv_goto (tgt := 25) hx hb dX10_minute_40 (by decide) ?_
      exact ih σ34 x1 (x3 + 1) H locs ls hw (lv_sub hl [1, 2, 0] rfl) hf
set_option maxHeartbeats 4000000 in
set_option maxRecDepth 100000 in
theorem wX10_minute_0 {p : Program} {l : Launch} {e : Env} {s : State} {m : MethodId} {args : Array Value} {below : List Frame} {meth : Method} {c : Code} {D : va_G} {A : Nat → Prop} {q : Nat → Nat} {cI cZ : ClassId} {Q : State → Prop} {r : Int} {τ : St} (C : Cx p s m args meth c D (TY cI cZ) cX10_minute (some .int) 4 wsX10_minute RX10) (hret : RtI p l e rmX10_minute s m args below meth c D A cX10_minute Q (wE q cI cZ τ) (zI r)) :
    ∀ (σ : St) (x1 : Int) (H : Heap) (locs : List Loc) (ls : Array Slot), Wd D A s (wE q cI cZ σ) H locs → lv_has ls 4 [(0, .ref (q 0)), (1, .int (zI x1))] → pX10_minute_0 σ x1 = some (r, τ) → W p l e rmX10_minute s m args below meth c H locs 0 0 Q (F0 m 0 ls []) := by
  obtain ⟨hx, hb, hr, hml, hown, hts, hlk, hK, hN⟩ := id C
  intro σ x1 H locs ls hw hl hf
  rw [pX10_minute_0] at hf
  refine lv_aload_n hx hb dX10_minute_0 rfl (lv_at hl 0 rfl) ?_
  refine lv_iload_n hx hb dX10_minute_1 rfl (lv_at hl 1 rfl) ?_
  obtain ⟨r2, h2, hf⟩ := bd_s hf
  replace hf := bt_s hf
  refine gVi (As := [.int (zI x1)]) (rest := []) C hw (tX10_refusalOfMinutes h2) (cwV 1 hts gX10_minute_X10_refusalOfMinutes rfl rfl rfl (by decide +kernel) ⟨Nat.le_of_ble_eq_true rfl, Nat.le_of_ble_eq_true rfl⟩) 10 0 rfl rfl rfl hl.1 rfl (Nat.le_of_ble_eq_true rfl) dX10_minute_2 (fun H locs hw => ?_)
  refine lv_istore_n (lv' := [(2, .int (zI r2)), (0, .ref (q 0)), (1, .int (zI x1))]) hx hb dX10_minute_5 rfl hl (by decide) rfl (fun ls hl => ?_)
  refine lv_iload_n hx hb dX10_minute_6 rfl (lv_at hl 0 rfl) ?_
  obtain ⟨hg7, hf⟩ := gd_s hf
  refine zv_if_eq (tgt := 12) hx hb hg7 dX10_minute_7 (by decide) (fun (c7 : r2 = 0) => ?_) (fun (c7 : ¬ (r2 = 0)) => ?_)
  · rw [if_pos c7] at hf
    refine lv_aload_n hx hb dX10_minute_12 rfl (lv_at hl 1 rfl) ?_
    refine va_get (D := D) (ci := 10) (v := .ref (q 18)) (C := RX10) (T := TX10) (N := 13) hx hb hts (fun _ h => List.mem_cons_of_mem _ (List.mem_append_left _ (List.mem_append_left _ (List.mem_append_left _ (List.mem_append_right _ h))))) hown hK hw.1 0 rfl rfl 4 (by decide) (hts (.fieldLink RX10 38 "EggThrones" "past" "LEggThrones$Past;") (List.mem_of_getElem? (i := 1) rfl)) (fun _ h9 => h9) rfl dX10_minute_13 ?_
    refine lv_aload_n hx hb dX10_minute_16 rfl (lv_at hl 1 rfl) ?_
    refine va_get (D := D) (ci := 10) (v := .ref (q 15)) (C := RX10) (T := TX10) (N := 13) hx hb hts (fun _ h => List.mem_cons_of_mem _ (List.mem_append_left _ (List.mem_append_left _ (List.mem_append_left _ (List.mem_append_right _ h))))) hown hK hw.1 0 rfl rfl 3 (by decide) (hts (.fieldLink RX10 31 "EggThrones" "now" "LEggThrones$Morning;") (List.mem_of_getElem? (i := 2) rfl)) (fun _ h9 => h9) rfl dX10_minute_17 ?_
    obtain ⟨σ20, h20, hf⟩ := bd_s hf
    replace hf := bt_s hf
    refine gVv (As := [.ref (q 15)]) (rest := []) C hw (tX5_remember h20) (cwV 1 hts gX10_minute_X5_remember rfl rfl rfl (by decide +kernel) ⟨Nat.le_of_ble_eq_true rfl, Nat.le_of_ble_eq_true rfl⟩) 5 18 rfl rfl rfl hl.1 rfl (Nat.le_of_ble_eq_true rfl) dX10_minute_20 (fun H locs hw => ?_)
    refine lv_iconst (v := zI 0) hx hb dX10_minute_23 rfl ?_
    refine lv_istore_n (lv' := [(3, .int (zI 0)), (2, .int (zI r2)), (0, .ref (q 0)), (1, .int (zI x1))]) hx hb dX10_minute_24 rfl hl (by decide) rfl (fun ls hl => ?_)
    exact wX10_minute_25 C hret FU σ20 x1 0 H locs ls hw (lv_sub hl [2, 3, 0] rfl) hf
  · rw [if_neg c7] at hf
    refine lv_iload_n hx hb dX10_minute_10 rfl (lv_at hl 0 rfl) ?_
    cases hf
    exact hret H locs ls 11 dX10_minute_11 hw
set_option maxHeartbeats 4000000 in
set_option maxRecDepth 100000 in
theorem tX10_minute {l : Launch} {D : va_G} {A : Nat → Prop} {cI cZ : ClassId} {q : Nat → Nat} {σ : St} {x1 : Int} {r : Int} {τ : St} (hf : pX10_minute σ x1 = some (r, τ)) : Met l yX10_minute wsX10_minute rmX10_minute (va_Pc [.ref (q 0), .int (zI x1)] (CX D (TY cI cZ) A (wE q cI cZ σ))) (QI D (TY cI cZ) A (wE q cI cZ τ) (zI r)) 0 0 A := by
  refine opn (cc := cX10_minute) (maxL := 4) (ret := (some .int)) (by decide) rfl (Nat.le_of_ble_eq_true rfl) (fun p e s m below meth c C ls hw hl => ?_)
  have hl : lv_has ls 4 [(0, .ref (q 0)), (1, .int (zI x1))] := hl
  rw [pX10_minute] at hf
  exact wX10_minute_0 C (rtI C) σ x1 _ _ ls hw (lv_sub hl [0, 1] rfl) hf
abbrev rmX11_pass : Room := { frames := 1, cells := 0, slots := 0, locals := 21 }
set_option maxHeartbeats 4000000 in
set_option maxRecDepth 100000 in
theorem wX11_pass_60 {p : Program} {l : Launch} {e : Env} {s : State} {m : MethodId} {args : Array Value} {below : List Frame} {meth : Method} {c : Code} {D : va_G} {A : Nat → Prop} {q : Nat → Nat} {cI cZ : ClassId} {Q : State → Prop} {τ : St} (C : Cx p s m args meth c D (TY cI cZ) cX11_pass none 2 wsX11_pass RX11) (hret : RtV p l e rmX11_pass s m args below meth c D A cX11_pass Q (wM q cI cZ τ)) (k2 : St → Int → Option (St)) (hk2 : ∀ (σ : St) (x1 : Int) (H : Heap) (locs : List Loc) (ls : Array Slot), Wd D A s (wM q cI cZ σ) H locs → lv_has ls 2 [(0, .ref (q 0)), (1, .int (zI x1))] → k2 σ x1 = some τ → W p l e rmX11_pass s m args below meth c H locs 0 0 Q (F0 m 2 ls [])) :
    ∀ (σ : St) (x1 : Int) (H : Heap) (locs : List Loc) (ls : Array Slot), Wd D A s (wM q cI cZ σ) H locs → lv_has ls 2 [(0, .ref (q 0)), (1, .int (zI x1))] → pX11_pass_60 k2 σ x1 = some τ → W p l e rmX11_pass s m args below meth c H locs 0 0 Q (F0 m 60 ls []) := by
  obtain ⟨hx, hb, hr, hml, hown, hts, hlk, hK, hN⟩ := id C
  intro σ x1 H locs ls hw hl hf
  rw [pX11_pass_60] at hf
  refine lv_iinc (v := zI (x1 + 1)) (lv' := [(1, .int (zI (x1 + 1))), (0, .ref (q 0))]) hx hb dX11_pass_60 hl (k := 1) rfl (zI_add _ _) (by decide) rfl (fun ls hl => ?_)
  refine lv_goto (tgt := 2) hx hb dX11_pass_63 (by decide) ?_
  exact hk2 σ (x1 + 1) H locs ls hw (lv_sub hl [1, 0] rfl) hf
set_option maxHeartbeats 4000000 in
set_option maxRecDepth 100000 in
theorem wX11_pass_59 {p : Program} {l : Launch} {e : Env} {s : State} {m : MethodId} {args : Array Value} {below : List Frame} {meth : Method} {c : Code} {D : va_G} {A : Nat → Prop} {q : Nat → Nat} {cI cZ : ClassId} {Q : State → Prop} {τ : St} (C : Cx p s m args meth c D (TY cI cZ) cX11_pass none 2 wsX11_pass RX11) (hret : RtV p l e rmX11_pass s m args below meth c D A cX11_pass Q (wM q cI cZ τ)) (k2 : St → Int → Option (St)) (hk2 : ∀ (σ : St) (x1 : Int) (H : Heap) (locs : List Loc) (ls : Array Slot), Wd D A s (wM q cI cZ σ) H locs → lv_has ls 2 [(0, .ref (q 0)), (1, .int (zI x1))] → k2 σ x1 = some τ → W p l e rmX11_pass s m args below meth c H locs 0 0 Q (F0 m 2 ls [])) :
    ∀ (σ : St) (x1 : Int) (t1 : Int) (t2 : Int) (H : Heap) (locs : List Loc) (ls : Array Slot), Wd D A s (wM q cI cZ σ) H locs → lv_has ls 2 [(0, .ref (q 0)), (1, .int (zI x1))] → pX11_pass_59 k2 σ x1 t1 t2 = some τ → W p l e rmX11_pass s m args below meth c H locs 0 0 Q (F0 m 59 ls [.int (zI t2), .int (zI t1), .ref (q 6)]) := by
  obtain ⟨hx, hb, hr, hml, hown, hts, hlk, hK, hN⟩ := id C
  intro σ x1 t1 t2 H locs ls hw hl hf
  rw [pX11_pass_59] at hf
  obtain ⟨hi59, hf⟩ := gd_s hf
  refine zv_iast (D := D) hx hb hK hw.1 hw.2.1 hw.2.2 6 0 rfl rfl hi59 (by decide) dX11_pass_59 (fun H locs hP hD hS => ?_)
  have hw : Wd D A s (wM q cI cZ (sA σ 5 (va_up (σ.2 5) (Int.toNat t1) t2))) H locs := wdaM_5 hP hD hS
  obtain ⟨σ59, e59, hf⟩ := nm_s hf
  replace hf := bt_s hf
  rw [← e59] at hw
  exact wX11_pass_60 C hret _ hk2 σ59 x1 H locs ls hw (lv_sub hl [0, 1] rfl) hf
set_option maxHeartbeats 4000000 in
set_option maxRecDepth 100000 in
theorem wX11_pass_187 {p : Program} {l : Launch} {e : Env} {s : State} {m : MethodId} {args : Array Value} {below : List Frame} {meth : Method} {c : Code} {D : va_G} {A : Nat → Prop} {q : Nat → Nat} {cI cZ : ClassId} {Q : State → Prop} {τ : St} (C : Cx p s m args meth c D (TY cI cZ) cX11_pass none 2 wsX11_pass RX11) (hret : RtV p l e rmX11_pass s m args below meth c D A cX11_pass Q (wM q cI cZ τ)) :
    ∀ (σ : St) (H : Heap) (locs : List Loc) (ls : Array Slot), Wd D A s (wM q cI cZ σ) H locs → lv_has ls 2 [(0, .ref (q 0))] → pX11_pass_187 σ = some τ → W p l e rmX11_pass s m args below meth c H locs 0 0 Q (F0 m 187 ls []) := by
  obtain ⟨hx, hb, hr, hml, hown, hts, hlk, hK, hN⟩ := id C
  intro σ H locs ls hw hl hf
  rw [pX11_pass_187] at hf
  refine lv_aload_n hx hb dX11_pass_187 rfl (lv_at hl 0 rfl) ?_
  refine va_get (D := D) (ci := 11) (v := .ref (q 6)) (C := RX11) (T := TX11) (N := 40) hx hb hts (fun _ h => List.mem_cons_of_mem _ (List.mem_append_right _ h)) hown hK hw.1 0 rfl rfl 9 (by decide) (hts (.fieldLink RX11 25 "EggThronesModel" "now" "[I") (List.mem_of_getElem? (i := 2) rfl)) (fun _ h9 => h9) rfl dX11_pass_188 ?_
  refine lv_bipush (v := zI 16) hx hb dX11_pass_191 (by decide +kernel) ?_
  refine lv_dup2_11 hx hb dX11_pass_193 rfl rfl ?_
  refine zv_iald (D := D) hx hb hK hw.1 6 0 rfl rfl (by decide) (by decide) dX11_pass_194 ?_
  refine lv_iconst (v := zI 1) hx hb dX11_pass_195 rfl ?_
  refine zv_iadd hx hb dX11_pass_196 ?_
  refine zv_iast (D := D) hx hb hK hw.1 hw.2.1 hw.2.2 6 0 rfl rfl (by decide) (by decide) dX11_pass_197 (fun H locs hP hD hS => ?_)
  have hw : Wd D A s (wM q cI cZ (sA σ 5 (va_up (σ.2 5) 16 ((σ.2 5 16) + 1)))) H locs := wdaM_5 hP hD hS
  obtain ⟨σ197, e197, hf⟩ := nm_s hf
  replace hf := bt_s hf
  rw [← e197] at hw
  cases hf
  exact hret H locs ls 198 dX11_pass_198 hw
set_option maxHeartbeats 4000000 in
set_option maxRecDepth 100000 in
theorem wX11_pass_164 {p : Program} {l : Launch} {e : Env} {s : State} {m : MethodId} {args : Array Value} {below : List Frame} {meth : Method} {c : Code} {D : va_G} {A : Nat → Prop} {q : Nat → Nat} {cI cZ : ClassId} {Q : State → Prop} {τ : St} (C : Cx p s m args meth c D (TY cI cZ) cX11_pass none 2 wsX11_pass RX11) (hret : RtV p l e rmX11_pass s m args below meth c D A cX11_pass Q (wM q cI cZ τ)) :
    ∀ (σ : St) (t1 : Int) (t2 : Int) (H : Heap) (locs : List Loc) (ls : Array Slot), Wd D A s (wM q cI cZ σ) H locs → lv_has ls 2 [(0, .ref (q 0))] → pX11_pass_164 σ t1 t2 = some τ → W p l e rmX11_pass s m args below meth c H locs 0 0 Q (F0 m 164 ls [.int (zI t2), .int (zI t1), .ref (q 6)]) := by
  obtain ⟨hx, hb, hr, hml, hown, hts, hlk, hK, hN⟩ := id C
  intro σ t1 t2 H locs ls hw hl hf
  rw [pX11_pass_164] at hf
  obtain ⟨hi164, hf⟩ := gd_s hf
  refine zv_iast (D := D) hx hb hK hw.1 hw.2.1 hw.2.2 6 0 rfl rfl hi164 (by decide) dX11_pass_164 (fun H locs hP hD hS => ?_)
  have hw : Wd D A s (wM q cI cZ (sA σ 5 (va_up (σ.2 5) (Int.toNat t1) t2))) H locs := wdaM_5 hP hD hS
  obtain ⟨σ164, e164, hf⟩ := nm_s hf
  replace hf := bt_s hf
  rw [← e164] at hw
  refine lv_goto (tgt := 187) hx hb dX11_pass_165 (by decide) ?_
  exact wX11_pass_187 C hret σ164 H locs ls hw (lv_sub hl [0] rfl) hf
set_option maxHeartbeats 4000000 in
set_option maxRecDepth 100000 in
theorem wX11_pass_142 {p : Program} {l : Launch} {e : Env} {s : State} {m : MethodId} {args : Array Value} {below : List Frame} {meth : Method} {c : Code} {D : va_G} {A : Nat → Prop} {q : Nat → Nat} {cI cZ : ClassId} {Q : State → Prop} {τ : St} (C : Cx p s m args meth c D (TY cI cZ) cX11_pass none 2 wsX11_pass RX11) (hret : RtV p l e rmX11_pass s m args below meth c D A cX11_pass Q (wM q cI cZ τ)) :
    ∀ (σ : St) (x1 : Int) (t1 : Int) (t2 : Int) (t3 : Int) (H : Heap) (locs : List Loc) (ls : Array Slot), Wd D A s (wM q cI cZ σ) H locs → lv_has ls 2 [(0, .ref (q 0)), (1, .int (zI x1))] → pX11_pass_142 σ x1 t1 t2 t3 = some τ → W p l e rmX11_pass s m args below meth c H locs 0 0 Q (F0 m 142 ls [.int (zI t3), .int (zI t2), .int (zI t1), .ref (q 6)]) := by
  obtain ⟨hx, hb, hr, hml, hown, hts, hlk, hK, hN⟩ := id C
  intro σ x1 t1 t2 t3 H locs ls hw hl hf
  rw [pX11_pass_142] at hf
  refine zv_iadd hx hb dX11_pass_142 ?_
  obtain ⟨hi143, hf⟩ := gd_s hf
  refine zv_iast (D := D) hx hb hK hw.1 hw.2.1 hw.2.2 6 0 rfl rfl hi143 (by decide) dX11_pass_143 (fun H locs hP hD hS => ?_)
  have hw : Wd D A s (wM q cI cZ (sA σ 5 (va_up (σ.2 5) (Int.toNat t1) (t2 + t3)))) H locs := wdaM_5 hP hD hS
  obtain ⟨σ143, e143, hf⟩ := nm_s hf
  replace hf := bt_s hf
  rw [← e143] at hw
  refine lv_aload_n hx hb dX11_pass_144 rfl (lv_at hl 0 rfl) ?_
  refine va_get (D := D) (ci := 11) (v := .ref (q 6)) (C := RX11) (T := TX11) (N := 40) hx hb hts (fun _ h => List.mem_cons_of_mem _ (List.mem_append_right _ h)) hown hK hw.1 0 rfl rfl 9 (by decide) (hts (.fieldLink RX11 25 "EggThronesModel" "now" "[I") (List.mem_of_getElem? (i := 2) rfl)) (fun _ h9 => h9) rfl dX11_pass_145 ?_
  refine lv_iload_n hx hb dX11_pass_148 rfl (lv_at hl 1 rfl) ?_
  refine lv_aload_n hx hb dX11_pass_149 rfl (lv_at hl 0 rfl) ?_
  refine va_get (D := D) (ci := 11) (v := .ref (q 6)) (C := RX11) (T := TX11) (N := 40) hx hb hts (fun _ h => List.mem_cons_of_mem _ (List.mem_append_right _ h)) hown hK hw.1 0 rfl rfl 9 (by decide) (hts (.fieldLink RX11 25 "EggThronesModel" "now" "[I") (List.mem_of_getElem? (i := 2) rfl)) (fun _ h9 => h9) rfl dX11_pass_150 ?_
  refine lv_bipush (v := zI 15) hx hb dX11_pass_153 (by decide +kernel) ?_
  refine zv_iald (D := D) hx hb hK hw.1 6 0 rfl rfl (by decide) (by decide) dX11_pass_155 ?_
  obtain ⟨hg156, hf⟩ := gd_s hf
  refine zv_if_ne (tgt := 163) hx hb hg156 dX11_pass_156 (by decide) (fun (c156 : ¬ ((σ143.2 5 15) = 0)) => ?_) (fun (c156 : (σ143.2 5 15) = 0) => ?_)
  · rw [if_neg c156] at hf
    refine lv_iconst (v := zI 3) hx hb dX11_pass_163 rfl ?_
    exact wX11_pass_164 C hret σ143 x1 3 H locs ls hw (lv_sub hl [0] rfl) hf
  · rw [if_pos c156] at hf
    refine lv_iconst (v := zI 4) hx hb dX11_pass_159 rfl ?_
    refine lv_goto (tgt := 164) hx hb dX11_pass_160 (by decide) ?_
    exact wX11_pass_164 C hret σ143 x1 4 H locs ls hw (lv_sub hl [0] rfl) hf
set_option maxHeartbeats 4000000 in
set_option maxRecDepth 100000 in
theorem wX11_pass_168 {p : Program} {l : Launch} {e : Env} {s : State} {m : MethodId} {args : Array Value} {below : List Frame} {meth : Method} {c : Code} {D : va_G} {A : Nat → Prop} {q : Nat → Nat} {cI cZ : ClassId} {Q : State → Prop} {τ : St} (C : Cx p s m args meth c D (TY cI cZ) cX11_pass none 2 wsX11_pass RX11) (hret : RtV p l e rmX11_pass s m args below meth c D A cX11_pass Q (wM q cI cZ τ)) :
    ∀ (σ : St) (x1 : Int) (H : Heap) (locs : List Loc) (ls : Array Slot), Wd D A s (wM q cI cZ σ) H locs → lv_has ls 2 [(0, .ref (q 0)), (1, .int (zI x1))] → pX11_pass_168 σ x1 = some τ → W p l e rmX11_pass s m args below meth c H locs 0 0 Q (F0 m 168 ls []) := by
  obtain ⟨hx, hb, hr, hml, hown, hts, hlk, hK, hN⟩ := id C
  intro σ x1 H locs ls hw hl hf
  rw [pX11_pass_168] at hf
  refine lv_iload_n hx hb dX11_pass_168 rfl (lv_at hl 1 rfl) ?_
  obtain ⟨hg169, hf⟩ := gd_s hf
  refine zv_if_lt (tgt := 187) hx hb hg169 dX11_pass_169 (by decide) (fun (c169 : x1 < 0) => ?_) (fun (c169 : ¬ (x1 < 0)) => ?_)
  · rw [if_pos c169] at hf
    exact wX11_pass_187 C hret σ H locs ls hw (lv_sub hl [0] rfl) hf
  · rw [if_neg c169] at hf
    refine lv_aload_n hx hb dX11_pass_172 rfl (lv_at hl 0 rfl) ?_
    refine va_get (D := D) (ci := 11) (v := .ref (q 6)) (C := RX11) (T := TX11) (N := 40) hx hb hts (fun _ h => List.mem_cons_of_mem _ (List.mem_append_right _ h)) hown hK hw.1 0 rfl rfl 9 (by decide) (hts (.fieldLink RX11 25 "EggThronesModel" "now" "[I") (List.mem_of_getElem? (i := 2) rfl)) (fun _ h9 => h9) rfl dX11_pass_173 ?_
    refine lv_iload_n hx hb dX11_pass_176 rfl (lv_at hl 1 rfl) ?_
    refine lv_iconst (v := zI 0) hx hb dX11_pass_177 rfl ?_
    obtain ⟨hi178, hf⟩ := gd_s hf
    refine zv_iast (D := D) hx hb hK hw.1 hw.2.1 hw.2.2 6 0 rfl rfl hi178 (by decide) dX11_pass_178 (fun H locs hP hD hS => ?_)
    have hw : Wd D A s (wM q cI cZ (sA σ 5 (va_up (σ.2 5) (Int.toNat x1) 0))) H locs := wdaM_5 hP hD hS
    obtain ⟨σ178, e178, hf⟩ := nm_s hf
    replace hf := bt_s hf
    rw [← e178] at hw
    refine lv_aload_n hx hb dX11_pass_179 rfl (lv_at hl 0 rfl) ?_
    refine va_get (D := D) (ci := 11) (v := .ref (q 6)) (C := RX11) (T := TX11) (N := 40) hx hb hts (fun _ h => List.mem_cons_of_mem _ (List.mem_append_right _ h)) hown hK hw.1 0 rfl rfl 9 (by decide) (hts (.fieldLink RX11 25 "EggThronesModel" "now" "[I") (List.mem_of_getElem? (i := 2) rfl)) (fun _ h9 => h9) rfl dX11_pass_180 ?_
    refine lv_bipush (v := zI 15) hx hb dX11_pass_183 (by decide +kernel) ?_
    refine lv_iconst (v := zI 0) hx hb dX11_pass_185 rfl ?_
    refine zv_iast (D := D) hx hb hK hw.1 hw.2.1 hw.2.2 6 0 rfl rfl (by decide) (by decide) dX11_pass_186 (fun H locs hP hD hS => ?_)
    have hw : Wd D A s (wM q cI cZ (sA σ178 5 (va_up (σ178.2 5) 15 0))) H locs := wdaM_5 hP hD hS
    obtain ⟨σ186, e186, hf⟩ := nm_s hf
    replace hf := bt_s hf
    rw [← e186] at hw
    exact wX11_pass_187 C hret σ186 H locs ls hw (lv_sub hl [0] rfl) hf
set_option maxHeartbeats 4000000 in
set_option maxRecDepth 100000 in
theorem wX11_pass_2 {p : Program} {l : Launch} {e : Env} {s : State} {m : MethodId} {args : Array Value} {below : List Frame} {meth : Method} {c : Code} {D : va_G} {A : Nat → Prop} {q : Nat → Nat} {cI cZ : ClassId} {Q : State → Prop} {τ : St} (C : Cx p s m args meth c D (TY cI cZ) cX11_pass none 2 wsX11_pass RX11) (hret : RtV p l e rmX11_pass s m args below meth c D A cX11_pass Q (wM q cI cZ τ)) :
    ∀ (n : Nat) (σ : St) (x1 : Int) (H : Heap) (locs : List Loc) (ls : Array Slot), Wd D A s (wM q cI cZ σ) H locs → lv_has ls 2 [(0, .ref (q 0)), (1, .int (zI x1))] → pX11_pass_2 n σ x1 = some τ → W p l e rmX11_pass s m args below meth c H locs 0 0 Q (F0 m 2 ls []) := by
  obtain ⟨hx, hb, hr, hml, hown, hts, hlk, hK, hN⟩ := id C
  intro n
  induction n with
  | zero =>
    intro σ x1 H locs ls hw hl hf
    exact absurd (show (none : Option (St)) = some τ from hf) (by simp)
  | succ n ih =>
    intro σ x1 H locs ls hw hl hf
    rw [pX11_pass_2] at hf
    refine lv_iload_n hx hb dX11_pass_2 rfl (lv_at hl 1 rfl) ?_
    refine lv_aload_n hx hb dX11_pass_3 rfl (lv_at hl 0 rfl) ?_
    refine va_get (D := D) (ci := 11) (v := .int (zI (σ.1 2))) (C := RX11) (T := TX11) (N := 40) hx hb hts (fun _ h => List.mem_cons_of_mem _ (List.mem_append_right _ h)) hown hK hw.1 0 rfl rfl 2 (by decide) (hts (.fieldLink RX11 93 "EggThronesModel" "eggs" "I") (List.mem_of_getElem? (i := 1) rfl)) (fun _ h9 => h9) rfl dX11_pass_4 ?_
    obtain ⟨hg7, hf⟩ := gd_s hf
    refine zv_icmp_ge (tgt := 66) hx hb hg7 dX11_pass_7 (by decide) (fun (c7 : (σ.1 2) ≤ x1) => ?_) (fun (c7 : ¬ ((σ.1 2) ≤ x1)) => ?_)
    · rw [if_pos c7] at hf
      refine lv_aload_n hx hb dX11_pass_66 rfl (lv_at hl 0 rfl) ?_
      obtain ⟨r67, h67, hf⟩ := bd_s hf
      replace hf := bt_s hf
      refine gVi (As := []) (rest := []) C hw (tX11_king h67) (cwV 0 hts gX11_pass_X11_king rfl rfl rfl (by decide +kernel) ⟨Nat.le_of_ble_eq_true rfl, Nat.le_of_ble_eq_true rfl⟩) 11 0 rfl rfl rfl hl.1 rfl (Nat.le_of_ble_eq_true rfl) dX11_pass_67 (fun H locs hw => ?_)
      refine lv_istore_n (lv' := [(1, .int (zI r67)), (0, .ref (q 0))]) hx hb dX11_pass_70 rfl hl (by decide) rfl (fun ls hl => ?_)
      refine lv_iload_n hx hb dX11_pass_71 rfl (lv_at hl 0 rfl) ?_
      obtain ⟨hg72, hf⟩ := gd_s hf
      refine zv_if_lt (tgt := 168) hx hb hg72 dX11_pass_72 (by decide) (fun (c72 : r67 < 0) => ?_) (fun (c72 : ¬ (r67 < 0)) => ?_)
      · rw [if_pos c72] at hf
        exact wX11_pass_168 C hret σ r67 H locs ls hw (lv_sub hl [1, 0] rfl) hf
      · rw [if_neg c72] at hf
        refine lv_aload_n hx hb dX11_pass_75 rfl (lv_at hl 1 rfl) ?_
        refine va_get (D := D) (ci := 11) (v := .ref (q 6)) (C := RX11) (T := TX11) (N := 40) hx hb hts (fun _ h => List.mem_cons_of_mem _ (List.mem_append_right _ h)) hown hK hw.1 0 rfl rfl 9 (by decide) (hts (.fieldLink RX11 25 "EggThronesModel" "now" "[I") (List.mem_of_getElem? (i := 2) rfl)) (fun _ h9 => h9) rfl dX11_pass_76 ?_
        refine lv_bipush (v := zI 14) hx hb dX11_pass_79 (by decide +kernel) ?_
        refine zv_iald (D := D) hx hb hK hw.1 6 0 rfl rfl (by decide) (by decide) dX11_pass_81 ?_
        refine lv_iconst (v := zI 1) hx hb dX11_pass_82 rfl ?_
        obtain ⟨hg83, hf⟩ := gd_s hf
        refine zv_icmp_le (tgt := 168) hx hb ⟨hg83, by decide⟩ dX11_pass_83 (by decide) (fun (c83 : (σ.2 5 14) ≤ 1) => ?_) (fun (c83 : ¬ ((σ.2 5 14) ≤ 1)) => ?_)
        · rw [if_pos c83] at hf
          exact wX11_pass_168 C hret σ r67 H locs ls hw (lv_sub hl [1, 0] rfl) hf
        · rw [if_neg c83] at hf
          refine lv_aload_n hx hb dX11_pass_86 rfl (lv_at hl 1 rfl) ?_
          refine va_get (D := D) (ci := 11) (v := .ref (q 6)) (C := RX11) (T := TX11) (N := 40) hx hb hts (fun _ h => List.mem_cons_of_mem _ (List.mem_append_right _ h)) hown hK hw.1 0 rfl rfl 9 (by decide) (hts (.fieldLink RX11 25 "EggThronesModel" "now" "[I") (List.mem_of_getElem? (i := 2) rfl)) (fun _ h9 => h9) rfl dX11_pass_87 ?_
          refine lv_bipush (v := zI 14) hx hb dX11_pass_90 (by decide +kernel) ?_
          refine lv_dup2_11 hx hb dX11_pass_92 rfl rfl ?_
          refine zv_iald (D := D) hx hb hK hw.1 6 0 rfl rfl (by decide) (by decide) dX11_pass_93 ?_
          refine lv_iconst (v := zI 2) hx hb dX11_pass_94 rfl ?_
          refine zv_isub hx hb dX11_pass_95 ?_
          refine zv_iast (D := D) hx hb hK hw.1 hw.2.1 hw.2.2 6 0 rfl rfl (by decide) (by decide) dX11_pass_96 (fun H locs hP hD hS => ?_)
          have hw : Wd D A s (wM q cI cZ (sA σ 5 (va_up (σ.2 5) 14 ((σ.2 5 14) - 2)))) H locs := wdaM_5 hP hD hS
          obtain ⟨σ96, e96, hf⟩ := nm_s hf
          replace hf := bt_s hf
          rw [← e96] at hw
          refine lv_aload_n hx hb dX11_pass_97 rfl (lv_at hl 1 rfl) ?_
          refine va_get (D := D) (ci := 11) (v := .ref (q 6)) (C := RX11) (T := TX11) (N := 40) hx hb hts (fun _ h => List.mem_cons_of_mem _ (List.mem_append_right _ h)) hown hK hw.1 0 rfl rfl 9 (by decide) (hts (.fieldLink RX11 25 "EggThronesModel" "now" "[I") (List.mem_of_getElem? (i := 2) rfl)) (fun _ h9 => h9) rfl dX11_pass_98 ?_
          refine lv_bipush (v := zI 15) hx hb dX11_pass_101 (by decide +kernel) ?_
          refine lv_dup2_11 hx hb dX11_pass_103 rfl rfl ?_
          refine zv_iald (D := D) hx hb hK hw.1 6 0 rfl rfl (by decide) (by decide) dX11_pass_104 ?_
          refine lv_iconst (v := zI 1) hx hb dX11_pass_105 rfl ?_
          refine zv_isub hx hb dX11_pass_106 ?_
          refine zv_iast (D := D) hx hb hK hw.1 hw.2.1 hw.2.2 6 0 rfl rfl (by decide) (by decide) dX11_pass_107 (fun H locs hP hD hS => ?_)
          have hw : Wd D A s (wM q cI cZ (sA σ96 5 (va_up (σ96.2 5) 15 ((σ96.2 5 15) - 1)))) H locs := wdaM_5 hP hD hS
          obtain ⟨σ107, e107, hf⟩ := nm_s hf
          replace hf := bt_s hf
          rw [← e107] at hw
          refine lv_aload_n hx hb dX11_pass_108 rfl (lv_at hl 1 rfl) ?_
          refine va_get (D := D) (ci := 11) (v := .ref (q 6)) (C := RX11) (T := TX11) (N := 40) hx hb hts (fun _ h => List.mem_cons_of_mem _ (List.mem_append_right _ h)) hown hK hw.1 0 rfl rfl 9 (by decide) (hts (.fieldLink RX11 25 "EggThronesModel" "now" "[I") (List.mem_of_getElem? (i := 2) rfl)) (fun _ h9 => h9) rfl dX11_pass_109 ?_
          refine lv_bipush (v := zI 17) hx hb dX11_pass_112 (by decide +kernel) ?_
          refine lv_dup2_11 hx hb dX11_pass_114 rfl rfl ?_
          refine zv_iald (D := D) hx hb hK hw.1 6 0 rfl rfl (by decide) (by decide) dX11_pass_115 ?_
          refine lv_iconst (v := zI 1) hx hb dX11_pass_116 rfl ?_
          refine zv_iadd hx hb dX11_pass_117 ?_
          refine zv_iast (D := D) hx hb hK hw.1 hw.2.1 hw.2.2 6 0 rfl rfl (by decide) (by decide) dX11_pass_118 (fun H locs hP hD hS => ?_)
          have hw : Wd D A s (wM q cI cZ (sA σ107 5 (va_up (σ107.2 5) 17 ((σ107.2 5 17) + 1)))) H locs := wdaM_5 hP hD hS
          obtain ⟨σ118, e118, hf⟩ := nm_s hf
          replace hf := bt_s hf
          rw [← e118] at hw
          refine lv_aload_n hx hb dX11_pass_119 rfl (lv_at hl 1 rfl) ?_
          refine va_get (D := D) (ci := 11) (v := .ref (q 6)) (C := RX11) (T := TX11) (N := 40) hx hb hts (fun _ h => List.mem_cons_of_mem _ (List.mem_append_right _ h)) hown hK hw.1 0 rfl rfl 9 (by decide) (hts (.fieldLink RX11 25 "EggThronesModel" "now" "[I") (List.mem_of_getElem? (i := 2) rfl)) (fun _ h9 => h9) rfl dX11_pass_120 ?_
          refine lv_bipush (v := zI 18) hx hb dX11_pass_123 (by decide +kernel) ?_
          refine lv_dup2_11 hx hb dX11_pass_125 rfl rfl ?_
          refine zv_iald (D := D) hx hb hK hw.1 6 0 rfl rfl (by decide) (by decide) dX11_pass_126 ?_
          refine lv_aload_n hx hb dX11_pass_127 rfl (lv_at hl 1 rfl) ?_
          refine va_get (D := D) (ci := 11) (v := .ref (q 6)) (C := RX11) (T := TX11) (N := 40) hx hb hts (fun _ h => List.mem_cons_of_mem _ (List.mem_append_right _ h)) hown hK hw.1 0 rfl rfl 9 (by decide) (hts (.fieldLink RX11 25 "EggThronesModel" "now" "[I") (List.mem_of_getElem? (i := 2) rfl)) (fun _ h9 => h9) rfl dX11_pass_128 ?_
          refine lv_bipush (v := zI 15) hx hb dX11_pass_131 (by decide +kernel) ?_
          refine zv_iald (D := D) hx hb hK hw.1 6 0 rfl rfl (by decide) (by decide) dX11_pass_133 ?_
          obtain ⟨hg134, hf⟩ := gd_s hf
          refine zv_if_ne (tgt := 141) hx hb hg134 dX11_pass_134 (by decide) (fun (c134 : ¬ ((σ118.2 5 15) = 0)) => ?_) (fun (c134 : (σ118.2 5 15) = 0) => ?_)
          · rw [if_neg c134] at hf
            refine lv_iconst (v := zI 0) hx hb dX11_pass_141 rfl ?_
            exact wX11_pass_142 C hret σ118 r67 18 (σ118.2 5 18) 0 H locs ls hw (lv_sub hl [1, 0] rfl) hf
          · rw [if_pos c134] at hf
            refine lv_iconst (v := zI 1) hx hb dX11_pass_137 rfl ?_
            refine lv_goto (tgt := 142) hx hb dX11_pass_138 (by decide) ?_
            exact wX11_pass_142 C hret σ118 r67 18 (σ118.2 5 18) 1 H locs ls hw (lv_sub hl [1, 0] rfl) hf
    · rw [if_neg c7] at hf
      refine lv_aload_n hx hb dX11_pass_10 rfl (lv_at hl 0 rfl) ?_
      refine va_get (D := D) (ci := 11) (v := .ref (q 6)) (C := RX11) (T := TX11) (N := 40) hx hb hts (fun _ h => List.mem_cons_of_mem _ (List.mem_append_right _ h)) hown hK hw.1 0 rfl rfl 9 (by decide) (hts (.fieldLink RX11 25 "EggThronesModel" "now" "[I") (List.mem_of_getElem? (i := 2) rfl)) (fun _ h9 => h9) rfl dX11_pass_11 ?_
      refine lv_iload_n hx hb dX11_pass_14 rfl (lv_at hl 1 rfl) ?_
      obtain ⟨hi15, hf⟩ := gd_s hf
      refine zv_iald (D := D) hx hb hK hw.1 6 0 rfl rfl hi15 (by decide) dX11_pass_15 ?_
      refine lv_iconst (v := zI 1) hx hb dX11_pass_16 rfl ?_
      obtain ⟨hg17, hf⟩ := gd_s hf
      refine zv_icmp_ne (tgt := 60) hx hb ⟨hg17, by decide⟩ dX11_pass_17 (by decide) (fun (c17 : ¬ ((σ.2 5 (Int.toNat x1)) = 1)) => ?_) (fun (c17 : (σ.2 5 (Int.toNat x1)) = 1) => ?_)
      · rw [if_neg c17] at hf
        exact wX11_pass_60 C hret _ ih σ x1 H locs ls hw (lv_sub hl [0, 1] rfl) hf
      · rw [if_pos c17] at hf
        refine lv_aload_n hx hb dX11_pass_20 rfl (lv_at hl 0 rfl) ?_
        refine va_get (D := D) (ci := 11) (v := .ref (q 6)) (C := RX11) (T := TX11) (N := 40) hx hb hts (fun _ h => List.mem_cons_of_mem _ (List.mem_append_right _ h)) hown hK hw.1 0 rfl rfl 9 (by decide) (hts (.fieldLink RX11 25 "EggThronesModel" "now" "[I") (List.mem_of_getElem? (i := 2) rfl)) (fun _ h9 => h9) rfl dX11_pass_21 ?_
        refine lv_bipush (v := zI 7) hx hb dX11_pass_24 (by decide +kernel) ?_
        refine lv_iload_n hx hb dX11_pass_26 rfl (lv_at hl 1 rfl) ?_
        refine zv_iadd hx hb dX11_pass_27 ?_
        refine lv_dup2_11 hx hb dX11_pass_28 rfl rfl ?_
        obtain ⟨hi29, hf⟩ := gd_s hf
        refine zv_iald (D := D) hx hb hK hw.1 6 0 rfl rfl hi29 (by decide) dX11_pass_29 ?_
        refine lv_iconst (v := zI 1) hx hb dX11_pass_30 rfl ?_
        refine zv_iadd hx hb dX11_pass_31 ?_
        obtain ⟨hi32, hf⟩ := gd_s hf
        refine zv_iast (D := D) hx hb hK hw.1 hw.2.1 hw.2.2 6 0 rfl rfl hi32 (by decide) dX11_pass_32 (fun H locs hP hD hS => ?_)
        have hw : Wd D A s (wM q cI cZ (sA σ 5 (va_up (σ.2 5) (Int.toNat (7 + x1)) ((σ.2 5 (Int.toNat (7 + x1))) + 1)))) H locs := wdaM_5 hP hD hS
        obtain ⟨σ32, e32, hf⟩ := nm_s hf
        replace hf := bt_s hf
        rw [← e32] at hw
        refine lv_aload_n hx hb dX11_pass_33 rfl (lv_at hl 0 rfl) ?_
        refine va_get (D := D) (ci := 11) (v := .ref (q 6)) (C := RX11) (T := TX11) (N := 40) hx hb hts (fun _ h => List.mem_cons_of_mem _ (List.mem_append_right _ h)) hown hK hw.1 0 rfl rfl 9 (by decide) (hts (.fieldLink RX11 25 "EggThronesModel" "now" "[I") (List.mem_of_getElem? (i := 2) rfl)) (fun _ h9 => h9) rfl dX11_pass_34 ?_
        refine lv_iload_n hx hb dX11_pass_37 rfl (lv_at hl 1 rfl) ?_
        refine lv_aload_n hx hb dX11_pass_38 rfl (lv_at hl 0 rfl) ?_
        refine va_get (D := D) (ci := 11) (v := .ref (q 6)) (C := RX11) (T := TX11) (N := 40) hx hb hts (fun _ h => List.mem_cons_of_mem _ (List.mem_append_right _ h)) hown hK hw.1 0 rfl rfl 9 (by decide) (hts (.fieldLink RX11 25 "EggThronesModel" "now" "[I") (List.mem_of_getElem? (i := 2) rfl)) (fun _ h9 => h9) rfl dX11_pass_39 ?_
        refine lv_bipush (v := zI 7) hx hb dX11_pass_42 (by decide +kernel) ?_
        refine lv_iload_n hx hb dX11_pass_44 rfl (lv_at hl 1 rfl) ?_
        refine zv_iadd hx hb dX11_pass_45 ?_
        obtain ⟨hi46, hf⟩ := gd_s hf
        refine zv_iald (D := D) hx hb hK hw.1 6 0 rfl rfl hi46 (by decide) dX11_pass_46 ?_
        refine lv_aload_n hx hb dX11_pass_47 rfl (lv_at hl 0 rfl) ?_
        refine va_get (D := D) (ci := 11) (v := .int (zI (σ32.1 1))) (C := RX11) (T := TX11) (N := 40) hx hb hts (fun _ h => List.mem_cons_of_mem _ (List.mem_append_right _ h)) hown hK hw.1 0 rfl rfl 1 (by decide) (hts (.fieldLink RX11 153 "EggThronesModel" "bears" "I") (List.mem_of_getElem? (i := 3) rfl)) (fun _ h9 => h9) rfl dX11_pass_48 ?_
        obtain ⟨hg51, hf⟩ := gd_s hf
        refine zv_icmp_le (tgt := 58) hx hb hg51 dX11_pass_51 (by decide) (fun (c51 : (σ32.2 5 (Int.toNat (7 + x1))) ≤ (σ32.1 1)) => ?_) (fun (c51 : ¬ ((σ32.2 5 (Int.toNat (7 + x1))) ≤ (σ32.1 1))) => ?_)
        · rw [if_pos c51] at hf
          refine lv_iconst (v := zI 1) hx hb dX11_pass_58 rfl ?_
          exact wX11_pass_59 C hret _ ih σ32 x1 x1 1 H locs ls hw (lv_sub hl [0, 1] rfl) hf
        · rw [if_neg c51] at hf
          refine lv_iconst (v := zI 5) hx hb dX11_pass_54 rfl ?_
          refine lv_goto (tgt := 59) hx hb dX11_pass_55 (by decide) ?_
          exact wX11_pass_59 C hret _ ih σ32 x1 x1 5 H locs ls hw (lv_sub hl [0, 1] rfl) hf
set_option maxHeartbeats 4000000 in
set_option maxRecDepth 100000 in
theorem wX11_pass_0 {p : Program} {l : Launch} {e : Env} {s : State} {m : MethodId} {args : Array Value} {below : List Frame} {meth : Method} {c : Code} {D : va_G} {A : Nat → Prop} {q : Nat → Nat} {cI cZ : ClassId} {Q : State → Prop} {τ : St} (C : Cx p s m args meth c D (TY cI cZ) cX11_pass none 2 wsX11_pass RX11) (hret : RtV p l e rmX11_pass s m args below meth c D A cX11_pass Q (wM q cI cZ τ)) :
    ∀ (σ : St) (H : Heap) (locs : List Loc) (ls : Array Slot), Wd D A s (wM q cI cZ σ) H locs → lv_has ls 2 [(0, .ref (q 0))] → pX11_pass_0 σ = some τ → W p l e rmX11_pass s m args below meth c H locs 0 0 Q (F0 m 0 ls []) := by
  obtain ⟨hx, hb, hr, hml, hown, hts, hlk, hK, hN⟩ := id C
  intro σ H locs ls hw hl hf
  rw [pX11_pass_0] at hf
  refine lv_iconst (v := zI 0) hx hb dX11_pass_0 rfl ?_
  refine lv_istore_n (lv' := [(1, .int (zI 0)), (0, .ref (q 0))]) hx hb dX11_pass_1 rfl hl (by decide) rfl (fun ls hl => ?_)
  exact wX11_pass_2 C hret FU σ 0 H locs ls hw (lv_sub hl [1, 0] rfl) hf
set_option maxHeartbeats 4000000 in
set_option maxRecDepth 100000 in
theorem tX11_pass {l : Launch} {D : va_G} {A : Nat → Prop} {cI cZ : ClassId} {q : Nat → Nat} {σ : St} {τ : St} (hf : pX11_pass σ = some τ) : Met l yX11_pass wsX11_pass rmX11_pass (va_Pc [.ref (q 0)] (CX D (TY cI cZ) A (wM q cI cZ σ))) (QV D (TY cI cZ) A (wM q cI cZ τ)) 0 0 A := by
  refine opn (cc := cX11_pass) (maxL := 2) (ret := none) (by decide) rfl (Nat.le_of_ble_eq_true rfl) (fun p e s m below meth c C ls hw hl => ?_)
  have hl : lv_has ls 2 [(0, .ref (q 0))] := hl
  rw [pX11_pass] at hf
  exact wX11_pass_0 C (rtV C) σ _ _ ls hw (lv_sub hl [0] rfl) hf
abbrev rmX11_minutesRefused : Room := { frames := 1, cells := 0, slots := 0, locals := 25 }
set_option maxHeartbeats 4000000 in
set_option maxRecDepth 100000 in
theorem wX11_minutesRefused_0 {p : Program} {l : Launch} {e : Env} {s : State} {m : MethodId} {args : Array Value} {below : List Frame} {meth : Method} {c : Code} {D : va_G} {A : Nat → Prop} {q : Nat → Nat} {cI cZ : ClassId} {Q : State → Prop} {σ : St} {r : Int} (C : Cx p s m args meth c D (TY cI cZ) cX11_minutesRefused (some .int) 2 wsX11_minutesRefused RX11) (hret : RtI p l e rmX11_minutesRefused s m args below meth c D A cX11_minutesRefused Q (wM q cI cZ σ) (zI r)) :
    ∀ (x1 : Int) (H : Heap) (locs : List Loc) (ls : Array Slot), Wd D A s (wM q cI cZ σ) H locs → lv_has ls 2 [(0, .ref (q 0)), (1, .int (zI x1))] → pX11_minutesRefused_0 σ x1 = some r → W p l e rmX11_minutesRefused s m args below meth c H locs 0 0 Q (F0 m 0 ls []) := by
  obtain ⟨hx, hb, hr, hml, hown, hts, hlk, hK, hN⟩ := id C
  intro x1 H locs ls hw hl hf
  rw [pX11_minutesRefused_0] at hf
  refine lv_iload_n hx hb dX11_minutesRefused_0 rfl (lv_at hl 1 rfl) ?_
  obtain ⟨hz1, hf⟩ := gd_s hf
  refine zv_i2l hx hb hz1 dX11_minutesRefused_1 ?_
  refine lv_lconst (v := zL 1) hx hb dX11_minutesRefused_2 (by decide +kernel) ?_
  refine zv_ldc2 hx hb 60 (by decide +kernel) hown (hts (.constantLong RX11 204 (60)) (List.mem_of_getElem? (i := 1) rfl)) dX11_minutesRefused_3 ?_
  obtain ⟨r6, h6, hf⟩ := bd_s hf
  replace hf := bt_s hf
  refine gSi (As := [.long (zL x1), .long (zL 1), .long (zL 60)]) (rest := []) C hw (tX11_in h6) (va_cwS 3 hts gX11_minutesRefused_X11_in rfl rfl rfl (by decide +kernel) ⟨Nat.le_of_ble_eq_true rfl, Nat.le_of_ble_eq_true rfl⟩) rfl hl.1 rfl (Nat.le_of_ble_eq_true rfl) dX11_minutesRefused_6 (fun H locs hw => ?_)
  obtain ⟨hg9, hf⟩ := gd_s hf
  refine zv_if_ne (tgt := 15) hx hb hg9 dX11_minutesRefused_9 (by decide) (fun (c9 : ¬ (r6 = 0)) => ?_) (fun (c9 : r6 = 0) => ?_)
  · rw [if_neg c9] at hf
    refine lv_aload_n hx hb dX11_minutesRefused_15 rfl (lv_at hl 0 rfl) ?_
    refine va_get (D := D) (ci := 11) (v := .int (zI (σ.1 0))) (C := RX11) (T := TX11) (N := 40) hx hb hts (fun _ h => List.mem_cons_of_mem _ (List.mem_append_right _ h)) hown hK hw.1 0 rfl rfl 0 (by decide) (hts (.fieldLink RX11 90 "EggThronesModel" "holds" "I") (List.mem_of_getElem? (i := 3) rfl)) (fun _ h9 => h9) rfl dX11_minutesRefused_16 ?_
    obtain ⟨hg19, hf⟩ := gd_s hf
    refine zv_if_ne (tgt := 27) hx hb hg19 dX11_minutesRefused_19 (by decide) (fun (c19 : ¬ ((σ.1 0) = 0)) => ?_) (fun (c19 : (σ.1 0) = 0) => ?_)
    · rw [if_neg c19] at hf
      refine lv_aload_n hx hb dX11_minutesRefused_27 rfl (lv_at hl 0 rfl) ?_
      refine va_get (D := D) (ci := 11) (v := .ref (q 6)) (C := RX11) (T := TX11) (N := 40) hx hb hts (fun _ h => List.mem_cons_of_mem _ (List.mem_append_right _ h)) hown hK hw.1 0 rfl rfl 9 (by decide) (hts (.fieldLink RX11 25 "EggThronesModel" "now" "[I") (List.mem_of_getElem? (i := 5) rfl)) (fun _ h9 => h9) rfl dX11_minutesRefused_28 ?_
      refine lv_bipush (v := zI 16) hx hb dX11_minutesRefused_31 (by decide +kernel) ?_
      refine zv_iald (D := D) hx hb hK hw.1 6 0 rfl rfl (by decide) (by decide) dX11_minutesRefused_33 ?_
      refine lv_sipush (v := zI 9000) hx hb dX11_minutesRefused_34 (by decide +kernel) ?_
      obtain ⟨hg37, hf⟩ := gd_s hf
      refine zv_icmp_le (tgt := 45) hx hb ⟨hg37, by decide⟩ dX11_minutesRefused_37 (by decide) (fun (c37 : (σ.2 5 16) ≤ 9000) => ?_) (fun (c37 : ¬ ((σ.2 5 16) ≤ 9000)) => ?_)
      · rw [if_pos c37] at hf
        refine lv_iconst (v := zI 0) hx hb dX11_minutesRefused_45 rfl ?_
        cases hf
        exact hret H locs ls 46 dX11_minutesRefused_46 hw
      · rw [if_neg c37] at hf
        refine zv_ldc hx hb (-1000000004) (by decide +kernel) hown (hts (.constant RX11 109 (-1000000004)) (List.mem_of_getElem? (i := 6) rfl)) dX11_minutesRefused_40 ?_
        refine lv_goto (tgt := 46) hx hb dX11_minutesRefused_42 (by decide) ?_
        cases hf
        exact hret H locs ls 46 dX11_minutesRefused_46 hw
    · rw [if_pos c19] at hf
      refine zv_ldc hx hb (-1000000003) (by decide +kernel) hown (hts (.constant RX11 206 (-1000000003)) (List.mem_of_getElem? (i := 4) rfl)) dX11_minutesRefused_22 ?_
      refine lv_goto (tgt := 46) hx hb dX11_minutesRefused_24 (by decide) ?_
      cases hf
      exact hret H locs ls 46 dX11_minutesRefused_46 hw
  · rw [if_pos c9] at hf
    refine zv_ldc hx hb (-1000000002) (by decide +kernel) hown (hts (.constant RX11 105 (-1000000002)) (List.mem_of_getElem? (i := 2) rfl)) dX11_minutesRefused_12 ?_
    cases hf
    exact hret H locs ls 14 dX11_minutesRefused_14 hw
set_option maxHeartbeats 4000000 in
set_option maxRecDepth 100000 in
theorem tX11_minutesRefused {l : Launch} {D : va_G} {A : Nat → Prop} {cI cZ : ClassId} {q : Nat → Nat} {σ : St} {x1 : Int} {r : Int} (hf : pX11_minutesRefused σ x1 = some r) : Met l yX11_minutesRefused wsX11_minutesRefused rmX11_minutesRefused (va_Pc [.ref (q 0), .int (zI x1)] (CX D (TY cI cZ) A (wM q cI cZ σ))) (QI D (TY cI cZ) A (wM q cI cZ σ) (zI r)) 0 0 A := by
  refine opn (cc := cX11_minutesRefused) (maxL := 2) (ret := (some .int)) (by decide) rfl (Nat.le_of_ble_eq_true rfl) (fun p e s m below meth c C ls hw hl => ?_)
  have hl : lv_has ls 2 [(0, .ref (q 0)), (1, .int (zI x1))] := hl
  rw [pX11_minutesRefused] at hf
  exact wX11_minutesRefused_0 C (rtI C) x1 _ _ ls hw (lv_sub hl [0, 1] rfl) hf
abbrev rmX11_remember : Room := { frames := 0, cells := 0, slots := 0, locals := 0 }
set_option maxHeartbeats 4000000 in
set_option maxRecDepth 100000 in
theorem wX11_remember_52 {p : Program} {l : Launch} {e : Env} {s : State} {m : MethodId} {args : Array Value} {below : List Frame} {meth : Method} {c : Code} {D : va_G} {A : Nat → Prop} {q : Nat → Nat} {cI cZ : ClassId} {Q : State → Prop} {τ : St} (C : Cx p s m args meth c D (TY cI cZ) cX11_remember none 2 wsX11_remember RX11) (hret : RtV p l e rmX11_remember s m args below meth c D A cX11_remember Q (wM q cI cZ τ)) :
    ∀ (n : Nat) (σ : St) (x1 : Int) (H : Heap) (locs : List Loc) (ls : Array Slot), Wd D A s (wM q cI cZ σ) H locs → lv_has ls 2 [(0, .ref (q 0)), (1, .int (zI x1))] → pX11_remember_52 n σ x1 = some τ → W p l e rmX11_remember s m args below meth c H locs 0 0 Q (F0 m 52 ls []) := by
  obtain ⟨hx, hb, hr, hml, hown, hts, hlk, hK, hN⟩ := id C
  intro n
  induction n with
  | zero =>
    intro σ x1 H locs ls hw hl hf
    exact absurd (show (none : Option (St)) = some τ from hf) (by simp)
  | succ n ih =>
    intro σ x1 H locs ls hw hl hf
    rw [pX11_remember_52] at hf
    refine lv_iload_n hx hb dX11_remember_52 rfl (lv_at hl 1 rfl) ?_
    refine lv_bipush (v := zI 19) hx hb dX11_remember_53 (by decide +kernel) ?_
    obtain ⟨hg55, hf⟩ := gd_s hf
    refine zv_icmp_ge (tgt := 84) hx hb ⟨hg55, by decide⟩ dX11_remember_55 (by decide) (fun (c55 : 19 ≤ x1) => ?_) (fun (c55 : ¬ (19 ≤ x1)) => ?_)
    · rw [if_pos c55] at hf
      refine lv_aload_n hx hb dX11_remember_84 rfl (lv_at hl 0 rfl) ?_
      refine lv_dup hx hb dX11_remember_85 rfl ?_
      refine va_get (D := D) (ci := 11) (v := .int (zI (σ.1 12))) (C := RX11) (T := TX11) (N := 40) hx hb hts (fun _ h => List.mem_cons_of_mem _ (List.mem_append_right _ h)) hown hK hw.1 0 rfl rfl 24 (by decide) (hts (.fieldLink RX11 168 "EggThronesModel" "undos" "I") (List.mem_of_getElem? (i := 1) rfl)) (fun _ h9 => h9) rfl dX11_remember_86 ?_
      refine lv_iconst (v := zI 1) hx hb dX11_remember_89 rfl ?_
      refine zv_iadd hx hb dX11_remember_90 ?_
      refine va_put (D := D) (ci := 11) (v := .int (zI ((σ.1 12) + 1))) (ty := .int) (C := RX11) (T := TX11) (N := 40) hx hb hts (fun _ h => List.mem_cons_of_mem _ (List.mem_append_right _ h)) tyX11 tyX11_ok nmX11 hown hK hw.1 hw.2.1 hw.2.2 0 rfl rfl 24 (by decide) (hts (.fieldLink RX11 168 "EggThronesModel" "undos" "I") (List.mem_of_getElem? (i := 1) rfl)) (fun _ h9 => h9) rfl (by decide +kernel) rfl rfl (Nat.le_of_ble_eq_true rfl) dX11_remember_91 (fun H locs hP hD hS => ?_)
      have hw : Wd D A s (wM q cI cZ (sI σ 12 ((σ.1 12) + 1))) H locs := wdiM_12 hP hD hS
      obtain ⟨σ91, e91, hf⟩ := nm_s hf
      replace hf := bt_s hf
      rw [← e91] at hw
      cases hf
      exact hret H locs ls 94 dX11_remember_94 hw
    · rw [if_neg c55] at hf
      refine lv_aload_n hx hb dX11_remember_58 rfl (lv_at hl 0 rfl) ?_
      refine va_get (D := D) (ci := 11) (v := .ref (q 13)) (C := RX11) (T := TX11) (N := 40) hx hb hts (fun _ h => List.mem_cons_of_mem _ (List.mem_append_right _ h)) hown hK hw.1 0 rfl rfl 25 (by decide) (hts (.fieldLink RX11 50 "EggThronesModel" "past" "[I") (List.mem_of_getElem? (i := 2) rfl)) (fun _ h9 => h9) rfl dX11_remember_59 ?_
      refine lv_bipush (v := zI 19) hx hb dX11_remember_62 (by decide +kernel) ?_
      refine lv_aload_n hx hb dX11_remember_64 rfl (lv_at hl 0 rfl) ?_
      refine va_get (D := D) (ci := 11) (v := .int (zI (σ.1 12))) (C := RX11) (T := TX11) (N := 40) hx hb hts (fun _ h => List.mem_cons_of_mem _ (List.mem_append_right _ h)) hown hK hw.1 0 rfl rfl 24 (by decide) (hts (.fieldLink RX11 168 "EggThronesModel" "undos" "I") (List.mem_of_getElem? (i := 1) rfl)) (fun _ h9 => h9) rfl dX11_remember_65 ?_
      refine zv_imul hx hb dX11_remember_68 ?_
      refine lv_iload_n hx hb dX11_remember_69 rfl (lv_at hl 1 rfl) ?_
      refine zv_iadd hx hb dX11_remember_70 ?_
      refine lv_aload_n hx hb dX11_remember_71 rfl (lv_at hl 0 rfl) ?_
      refine va_get (D := D) (ci := 11) (v := .ref (q 6)) (C := RX11) (T := TX11) (N := 40) hx hb hts (fun _ h => List.mem_cons_of_mem _ (List.mem_append_right _ h)) hown hK hw.1 0 rfl rfl 9 (by decide) (hts (.fieldLink RX11 25 "EggThronesModel" "now" "[I") (List.mem_of_getElem? (i := 3) rfl)) (fun _ h9 => h9) rfl dX11_remember_72 ?_
      refine lv_iload_n hx hb dX11_remember_75 rfl (lv_at hl 1 rfl) ?_
      obtain ⟨hi76, hf⟩ := gd_s hf
      refine zv_iald (D := D) hx hb hK hw.1 6 0 rfl rfl hi76 (by decide) dX11_remember_76 ?_
      obtain ⟨hi77, hf⟩ := gd_s hf
      refine zv_iast (D := D) hx hb hK hw.1 hw.2.1 hw.2.2 13 0 rfl rfl hi77 (by decide) dX11_remember_77 (fun H locs hP hD hS => ?_)
      have hw : Wd D A s (wM q cI cZ (sA σ 12 (va_up (σ.2 12) (Int.toNat ((19 * (σ.1 12)) + x1)) (σ.2 5 (Int.toNat x1))))) H locs := wdaM_12 hP hD hS
      obtain ⟨σ77, e77, hf⟩ := nm_s hf
      replace hf := bt_s hf
      rw [← e77] at hw
      refine lv_iinc (v := zI (x1 + 1)) (lv' := [(1, .int (zI (x1 + 1))), (0, .ref (q 0))]) hx hb dX11_remember_78 hl (k := 1) rfl (zI_add _ _) (by decide) rfl (fun ls hl => ?_)
      refine lv_goto (tgt := 52) hx hb dX11_remember_81 (by decide) ?_
      exact ih σ77 (x1 + 1) H locs ls hw (lv_sub hl [1, 0] rfl) hf
set_option maxHeartbeats 4000000 in
set_option maxRecDepth 100000 in
theorem wX11_remember_50 {p : Program} {l : Launch} {e : Env} {s : State} {m : MethodId} {args : Array Value} {below : List Frame} {meth : Method} {c : Code} {D : va_G} {A : Nat → Prop} {q : Nat → Nat} {cI cZ : ClassId} {Q : State → Prop} {τ : St} (C : Cx p s m args meth c D (TY cI cZ) cX11_remember none 2 wsX11_remember RX11) (hret : RtV p l e rmX11_remember s m args below meth c D A cX11_remember Q (wM q cI cZ τ)) :
    ∀ (σ : St) (H : Heap) (locs : List Loc) (ls : Array Slot), Wd D A s (wM q cI cZ σ) H locs → lv_has ls 2 [(0, .ref (q 0))] → pX11_remember_50 σ = some τ → W p l e rmX11_remember s m args below meth c H locs 0 0 Q (F0 m 50 ls []) := by
  obtain ⟨hx, hb, hr, hml, hown, hts, hlk, hK, hN⟩ := id C
  intro σ H locs ls hw hl hf
  rw [pX11_remember_50] at hf
  refine lv_iconst (v := zI 0) hx hb dX11_remember_50 rfl ?_
  refine lv_istore_n (lv' := [(1, .int (zI 0)), (0, .ref (q 0))]) hx hb dX11_remember_51 rfl hl (by decide) rfl (fun ls hl => ?_)
  exact wX11_remember_52 C hret FU σ 0 H locs ls hw (lv_sub hl [1, 0] rfl) hf
set_option maxHeartbeats 4000000 in
set_option maxRecDepth 100000 in
theorem wX11_remember_12 {p : Program} {l : Launch} {e : Env} {s : State} {m : MethodId} {args : Array Value} {below : List Frame} {meth : Method} {c : Code} {D : va_G} {A : Nat → Prop} {q : Nat → Nat} {cI cZ : ClassId} {Q : State → Prop} {τ : St} (C : Cx p s m args meth c D (TY cI cZ) cX11_remember none 2 wsX11_remember RX11) (hret : RtV p l e rmX11_remember s m args below meth c D A cX11_remember Q (wM q cI cZ τ)) :
    ∀ (n : Nat) (σ : St) (x1 : Int) (H : Heap) (locs : List Loc) (ls : Array Slot), Wd D A s (wM q cI cZ σ) H locs → lv_has ls 2 [(0, .ref (q 0)), (1, .int (zI x1))] → pX11_remember_12 n σ x1 = some τ → W p l e rmX11_remember s m args below meth c H locs 0 0 Q (F0 m 12 ls []) := by
  obtain ⟨hx, hb, hr, hml, hown, hts, hlk, hK, hN⟩ := id C
  intro n
  induction n with
  | zero =>
    intro σ x1 H locs ls hw hl hf
    exact absurd (show (none : Option (St)) = some τ from hf) (by simp)
  | succ n ih =>
    intro σ x1 H locs ls hw hl hf
    rw [pX11_remember_12] at hf
    refine lv_iload_n hx hb dX11_remember_12 rfl (lv_at hl 1 rfl) ?_
    refine lv_sipush (v := zI 380) hx hb dX11_remember_13 (by decide +kernel) ?_
    obtain ⟨hg16, hf⟩ := gd_s hf
    refine zv_icmp_ge (tgt := 40) hx hb ⟨hg16, by decide⟩ dX11_remember_16 (by decide) (fun (c16 : 380 ≤ x1) => ?_) (fun (c16 : ¬ (380 ≤ x1)) => ?_)
    · rw [if_pos c16] at hf
      refine lv_aload_n hx hb dX11_remember_40 rfl (lv_at hl 0 rfl) ?_
      refine lv_dup hx hb dX11_remember_41 rfl ?_
      refine va_get (D := D) (ci := 11) (v := .int (zI (σ.1 12))) (C := RX11) (T := TX11) (N := 40) hx hb hts (fun _ h => List.mem_cons_of_mem _ (List.mem_append_right _ h)) hown hK hw.1 0 rfl rfl 24 (by decide) (hts (.fieldLink RX11 168 "EggThronesModel" "undos" "I") (List.mem_of_getElem? (i := 1) rfl)) (fun _ h9 => h9) rfl dX11_remember_42 ?_
      refine lv_iconst (v := zI 1) hx hb dX11_remember_45 rfl ?_
      refine zv_isub hx hb dX11_remember_46 ?_
      refine va_put (D := D) (ci := 11) (v := .int (zI ((σ.1 12) - 1))) (ty := .int) (C := RX11) (T := TX11) (N := 40) hx hb hts (fun _ h => List.mem_cons_of_mem _ (List.mem_append_right _ h)) tyX11 tyX11_ok nmX11 hown hK hw.1 hw.2.1 hw.2.2 0 rfl rfl 24 (by decide) (hts (.fieldLink RX11 168 "EggThronesModel" "undos" "I") (List.mem_of_getElem? (i := 1) rfl)) (fun _ h9 => h9) rfl (by decide +kernel) rfl rfl (Nat.le_of_ble_eq_true rfl) dX11_remember_47 (fun H locs hP hD hS => ?_)
      have hw : Wd D A s (wM q cI cZ (sI σ 12 ((σ.1 12) - 1))) H locs := wdiM_12 hP hD hS
      obtain ⟨σ47, e47, hf⟩ := nm_s hf
      replace hf := bt_s hf
      rw [← e47] at hw
      exact wX11_remember_50 C hret σ47 H locs ls hw (lv_sub hl [0] rfl) hf
    · rw [if_neg c16] at hf
      refine lv_aload_n hx hb dX11_remember_19 rfl (lv_at hl 0 rfl) ?_
      refine va_get (D := D) (ci := 11) (v := .ref (q 13)) (C := RX11) (T := TX11) (N := 40) hx hb hts (fun _ h => List.mem_cons_of_mem _ (List.mem_append_right _ h)) hown hK hw.1 0 rfl rfl 25 (by decide) (hts (.fieldLink RX11 50 "EggThronesModel" "past" "[I") (List.mem_of_getElem? (i := 2) rfl)) (fun _ h9 => h9) rfl dX11_remember_20 ?_
      refine lv_iload_n hx hb dX11_remember_23 rfl (lv_at hl 1 rfl) ?_
      refine lv_bipush (v := zI 19) hx hb dX11_remember_24 (by decide +kernel) ?_
      refine zv_isub hx hb dX11_remember_26 ?_
      refine lv_aload_n hx hb dX11_remember_27 rfl (lv_at hl 0 rfl) ?_
      refine va_get (D := D) (ci := 11) (v := .ref (q 13)) (C := RX11) (T := TX11) (N := 40) hx hb hts (fun _ h => List.mem_cons_of_mem _ (List.mem_append_right _ h)) hown hK hw.1 0 rfl rfl 25 (by decide) (hts (.fieldLink RX11 50 "EggThronesModel" "past" "[I") (List.mem_of_getElem? (i := 2) rfl)) (fun _ h9 => h9) rfl dX11_remember_28 ?_
      refine lv_iload_n hx hb dX11_remember_31 rfl (lv_at hl 1 rfl) ?_
      obtain ⟨hi32, hf⟩ := gd_s hf
      refine zv_iald (D := D) hx hb hK hw.1 13 0 rfl rfl hi32 (by decide) dX11_remember_32 ?_
      obtain ⟨hi33, hf⟩ := gd_s hf
      refine zv_iast (D := D) hx hb hK hw.1 hw.2.1 hw.2.2 13 0 rfl rfl hi33 (by decide) dX11_remember_33 (fun H locs hP hD hS => ?_)
      have hw : Wd D A s (wM q cI cZ (sA σ 12 (va_up (σ.2 12) (Int.toNat (x1 - 19)) (σ.2 12 (Int.toNat x1))))) H locs := wdaM_12 hP hD hS
      obtain ⟨σ33, e33, hf⟩ := nm_s hf
      replace hf := bt_s hf
      rw [← e33] at hw
      refine lv_iinc (v := zI (x1 + 1)) (lv' := [(1, .int (zI (x1 + 1))), (0, .ref (q 0))]) hx hb dX11_remember_34 hl (k := 1) rfl (zI_add _ _) (by decide) rfl (fun ls hl => ?_)
      refine lv_goto (tgt := 12) hx hb dX11_remember_37 (by decide) ?_
      exact ih σ33 (x1 + 1) H locs ls hw (lv_sub hl [1, 0] rfl) hf
set_option maxHeartbeats 4000000 in
set_option maxRecDepth 100000 in
theorem wX11_remember_0 {p : Program} {l : Launch} {e : Env} {s : State} {m : MethodId} {args : Array Value} {below : List Frame} {meth : Method} {c : Code} {D : va_G} {A : Nat → Prop} {q : Nat → Nat} {cI cZ : ClassId} {Q : State → Prop} {τ : St} (C : Cx p s m args meth c D (TY cI cZ) cX11_remember none 2 wsX11_remember RX11) (hret : RtV p l e rmX11_remember s m args below meth c D A cX11_remember Q (wM q cI cZ τ)) :
    ∀ (σ : St) (H : Heap) (locs : List Loc) (ls : Array Slot), Wd D A s (wM q cI cZ σ) H locs → lv_has ls 2 [(0, .ref (q 0))] → pX11_remember_0 σ = some τ → W p l e rmX11_remember s m args below meth c H locs 0 0 Q (F0 m 0 ls []) := by
  obtain ⟨hx, hb, hr, hml, hown, hts, hlk, hK, hN⟩ := id C
  intro σ H locs ls hw hl hf
  rw [pX11_remember_0] at hf
  refine lv_aload_n hx hb dX11_remember_0 rfl (lv_at hl 0 rfl) ?_
  refine va_get (D := D) (ci := 11) (v := .int (zI (σ.1 12))) (C := RX11) (T := TX11) (N := 40) hx hb hts (fun _ h => List.mem_cons_of_mem _ (List.mem_append_right _ h)) hown hK hw.1 0 rfl rfl 24 (by decide) (hts (.fieldLink RX11 168 "EggThronesModel" "undos" "I") (List.mem_of_getElem? (i := 1) rfl)) (fun _ h9 => h9) rfl dX11_remember_1 ?_
  refine lv_bipush (v := zI 20) hx hb dX11_remember_4 (by decide +kernel) ?_
  obtain ⟨hg6, hf⟩ := gd_s hf
  refine zv_icmp_ne (tgt := 50) hx hb ⟨hg6, by decide⟩ dX11_remember_6 (by decide) (fun (c6 : ¬ ((σ.1 12) = 20)) => ?_) (fun (c6 : (σ.1 12) = 20) => ?_)
  · rw [if_neg c6] at hf
    exact wX11_remember_50 C hret σ H locs ls hw (lv_sub hl [0] rfl) hf
  · rw [if_pos c6] at hf
    refine lv_bipush (v := zI 19) hx hb dX11_remember_9 (by decide +kernel) ?_
    refine lv_istore_n (lv' := [(1, .int (zI 19)), (0, .ref (q 0))]) hx hb dX11_remember_11 rfl hl (by decide) rfl (fun ls hl => ?_)
    exact wX11_remember_12 C hret FU σ 19 H locs ls hw (lv_sub hl [1, 0] rfl) hf
set_option maxHeartbeats 4000000 in
set_option maxRecDepth 100000 in
theorem tX11_remember {l : Launch} {D : va_G} {A : Nat → Prop} {cI cZ : ClassId} {q : Nat → Nat} {σ : St} {τ : St} (hf : pX11_remember σ = some τ) : Met l yX11_remember wsX11_remember rmX11_remember (va_Pc [.ref (q 0)] (CX D (TY cI cZ) A (wM q cI cZ σ))) (QV D (TY cI cZ) A (wM q cI cZ τ)) 0 0 A := by
  refine opn (cc := cX11_remember) (maxL := 2) (ret := none) (by decide) rfl (Nat.le_of_ble_eq_true rfl) (fun p e s m below meth c C ls hw hl => ?_)
  have hl : lv_has ls 2 [(0, .ref (q 0))] := hl
  rw [pX11_remember] at hf
  exact wX11_remember_0 C (rtV C) σ _ _ ls hw (lv_sub hl [0] rfl) hf
abbrev rmX11_minute : Room := { frames := 2, cells := 0, slots := 0, locals := 46 }
set_option maxHeartbeats 4000000 in
set_option maxRecDepth 100000 in
theorem wX11_minute_18 {p : Program} {l : Launch} {e : Env} {s : State} {m : MethodId} {args : Array Value} {below : List Frame} {meth : Method} {c : Code} {D : va_G} {A : Nat → Prop} {q : Nat → Nat} {cI cZ : ClassId} {Q : State → Prop} {r : Int} {τ : St} (C : Cx p s m args meth c D (TY cI cZ) cX11_minute (some .int) 4 wsX11_minute RX11) (hret : RtI p l e rmX11_minute s m args below meth c D A cX11_minute Q (wM q cI cZ τ) (zI r)) :
    ∀ (n : Nat) (σ : St) (x1 : Int) (x3 : Int) (H : Heap) (locs : List Loc) (ls : Array Slot), Wd D A s (wM q cI cZ σ) H locs → lv_has ls 4 [(0, .ref (q 0)), (1, .int (zI x1)), (3, .int (zI x3))] → pX11_minute_18 n σ x1 x3 = some (r, τ) → W p l e rmX11_minute s m args below meth c H locs 0 0 Q (F0 m 18 ls []) := by
  obtain ⟨hx, hb, hr, hml, hown, hts, hlk, hK, hN⟩ := id C
  intro n
  induction n with
  | zero =>
    intro σ x1 x3 H locs ls hw hl hf
    exact absurd (show (none : Option (Int × St)) = some (r, τ) from hf) (by simp)
  | succ n ih =>
    intro σ x1 x3 H locs ls hw hl hf
    rw [pX11_minute_18] at hf
    refine lv_iload_n hx hb dX11_minute_18 rfl (lv_at hl 2 rfl) ?_
    refine lv_iload_n hx hb dX11_minute_19 rfl (lv_at hl 1 rfl) ?_
    obtain ⟨hg20, hf⟩ := gd_s hf
    refine zv_icmp_ge (tgt := 33) hx hb hg20 dX11_minute_20 (by decide) (fun (c20 : x1 ≤ x3) => ?_) (fun (c20 : ¬ (x1 ≤ x3)) => ?_)
    · rw [if_pos c20] at hf
      refine lv_aload_n hx hb dX11_minute_33 rfl (lv_at hl 0 rfl) ?_
      refine va_get (D := D) (ci := 11) (v := .ref (q 6)) (C := RX11) (T := TX11) (N := 40) hx hb hts (fun _ h => List.mem_cons_of_mem _ (List.mem_append_right _ h)) hown hK hw.1 0 rfl rfl 9 (by decide) (hts (.fieldLink RX11 25 "EggThronesModel" "now" "[I") (List.mem_of_getElem? (i := 1) rfl)) (fun _ h9 => h9) rfl dX11_minute_34 ?_
      refine lv_bipush (v := zI 16) hx hb dX11_minute_37 (by decide +kernel) ?_
      refine zv_iald (D := D) hx hb hK hw.1 6 0 rfl rfl (by decide) (by decide) dX11_minute_39 ?_
      cases hf
      exact hret H locs ls 40 dX11_minute_40 hw
    · rw [if_neg c20] at hf
      refine lv_aload_n hx hb dX11_minute_23 rfl (lv_at hl 0 rfl) ?_
      obtain ⟨σ24, h24, hf⟩ := bd_s hf
      replace hf := bt_s hf
      refine gVv (As := []) (rest := []) C hw (tX11_pass h24) (cwV 0 hts gX11_minute_X11_pass rfl rfl rfl (by decide +kernel) ⟨Nat.le_of_ble_eq_true rfl, Nat.le_of_ble_eq_true rfl⟩) 11 0 rfl rfl rfl hl.1 rfl (Nat.le_of_ble_eq_true rfl) dX11_minute_24 (fun H locs hw => ?_)
      refine lv_iinc (v := zI (x3 + 1)) (lv' := [(3, .int (zI (x3 + 1))), (0, .ref (q 0)), (1, .int (zI x1))]) hx hb dX11_minute_27 hl (k := 2) rfl (zI_add _ _) (by decide) rfl (fun ls hl => ?_)
      refine lv_goto (tgt := 18) hx hb dX11_minute_30 (by decide) ?_
      exact ih σ24 x1 (x3 + 1) H locs ls hw (lv_sub hl [1, 2, 0] rfl) hf
set_option maxHeartbeats 4000000 in
set_option maxRecDepth 100000 in
theorem wX11_minute_0 {p : Program} {l : Launch} {e : Env} {s : State} {m : MethodId} {args : Array Value} {below : List Frame} {meth : Method} {c : Code} {D : va_G} {A : Nat → Prop} {q : Nat → Nat} {cI cZ : ClassId} {Q : State → Prop} {r : Int} {τ : St} (C : Cx p s m args meth c D (TY cI cZ) cX11_minute (some .int) 4 wsX11_minute RX11) (hret : RtI p l e rmX11_minute s m args below meth c D A cX11_minute Q (wM q cI cZ τ) (zI r)) :
    ∀ (σ : St) (x1 : Int) (H : Heap) (locs : List Loc) (ls : Array Slot), Wd D A s (wM q cI cZ σ) H locs → lv_has ls 4 [(0, .ref (q 0)), (1, .int (zI x1))] → pX11_minute_0 σ x1 = some (r, τ) → W p l e rmX11_minute s m args below meth c H locs 0 0 Q (F0 m 0 ls []) := by
  obtain ⟨hx, hb, hr, hml, hown, hts, hlk, hK, hN⟩ := id C
  intro σ x1 H locs ls hw hl hf
  rw [pX11_minute_0] at hf
  refine lv_aload_n hx hb dX11_minute_0 rfl (lv_at hl 0 rfl) ?_
  refine lv_iload_n hx hb dX11_minute_1 rfl (lv_at hl 1 rfl) ?_
  obtain ⟨r2, h2, hf⟩ := bd_s hf
  replace hf := bt_s hf
  refine gVi (As := [.int (zI x1)]) (rest := []) C hw (tX11_minutesRefused h2) (cwV 1 hts gX11_minute_X11_minutesRefused rfl rfl rfl (by decide +kernel) ⟨Nat.le_of_ble_eq_true rfl, Nat.le_of_ble_eq_true rfl⟩) 11 0 rfl rfl rfl hl.1 rfl (Nat.le_of_ble_eq_true rfl) dX11_minute_2 (fun H locs hw => ?_)
  refine lv_istore_n (lv' := [(2, .int (zI r2)), (0, .ref (q 0)), (1, .int (zI x1))]) hx hb dX11_minute_5 rfl hl (by decide) rfl (fun ls hl => ?_)
  refine lv_iload_n hx hb dX11_minute_6 rfl (lv_at hl 0 rfl) ?_
  obtain ⟨hg7, hf⟩ := gd_s hf
  refine zv_if_eq (tgt := 12) hx hb hg7 dX11_minute_7 (by decide) (fun (c7 : r2 = 0) => ?_) (fun (c7 : ¬ (r2 = 0)) => ?_)
  · rw [if_pos c7] at hf
    refine lv_aload_n hx hb dX11_minute_12 rfl (lv_at hl 1 rfl) ?_
    obtain ⟨σ13, h13, hf⟩ := bd_s hf
    replace hf := bt_s hf
    refine gVv (As := []) (rest := []) C hw (tX11_remember h13) (cwV 0 hts gX11_minute_X11_remember rfl rfl rfl (by decide +kernel) ⟨Nat.le_of_ble_eq_true rfl, Nat.le_of_ble_eq_true rfl⟩) 11 0 rfl rfl rfl hl.1 rfl (Nat.le_of_ble_eq_true rfl) dX11_minute_13 (fun H locs hw => ?_)
    refine lv_iconst (v := zI 0) hx hb dX11_minute_16 rfl ?_
    refine lv_istore_n (lv' := [(3, .int (zI 0)), (2, .int (zI r2)), (0, .ref (q 0)), (1, .int (zI x1))]) hx hb dX11_minute_17 rfl hl (by decide) rfl (fun ls hl => ?_)
    exact wX11_minute_18 C hret FU σ13 x1 0 H locs ls hw (lv_sub hl [2, 3, 0] rfl) hf
  · rw [if_neg c7] at hf
    refine lv_iload_n hx hb dX11_minute_10 rfl (lv_at hl 0 rfl) ?_
    cases hf
    exact hret H locs ls 11 dX11_minute_11 hw
set_option maxHeartbeats 4000000 in
set_option maxRecDepth 100000 in
theorem tX11_minute {l : Launch} {D : va_G} {A : Nat → Prop} {cI cZ : ClassId} {q : Nat → Nat} {σ : St} {x1 : Int} {r : Int} {τ : St} (hf : pX11_minute σ x1 = some (r, τ)) : Met l yX11_minute wsX11_minute rmX11_minute (va_Pc [.ref (q 0), .int (zI x1)] (CX D (TY cI cZ) A (wM q cI cZ σ))) (QI D (TY cI cZ) A (wM q cI cZ τ) (zI r)) 0 0 A := by
  refine opn (cc := cX11_minute) (maxL := 4) (ret := (some .int)) (by decide) rfl (Nat.le_of_ble_eq_true rfl) (fun p e s m below meth c C ls hw hl => ?_)
  have hl : lv_has ls 4 [(0, .ref (q 0)), (1, .int (zI x1))] := hl
  rw [pX11_minute] at hf
  exact wX11_minute_0 C (rtI C) σ x1 _ _ ls hw (lv_sub hl [0, 1] rfl) hf
