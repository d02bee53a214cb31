abbrev rmX7_weigh : Room := { frames := 4, cells := 0, slots := 0, locals := 96 }
set_option maxHeartbeats 4000000 in
set_option maxRecDepth 100000 in
theorem wX7_weigh_40 {p : Program} {l : Launch} {e : Env} {s : State} {m : MethodId} {args : Array Value} {below : List Frame} {meth : Method} {c : Code} {D : va_G} {A : Nat → Prop} {q : Nat → Nat} {cI cZ : ClassId} {Q : State → Prop} {τ : St} (C : Cx p s m args meth c D (TY cI cZ) cX7_weigh none 6 wsX7_weigh RX7) (hret : RtV p l e rmX7_weigh s m args below meth c D A cX7_weigh Q (wE q cI cZ τ)) (k11 : St → Int → Int → Int → Int → Option (St)) (hk11 : ∀ (σ : St) (x2 : Int) (x3 : Int) (x4 : Int) (x5 : Int) (H : Heap) (locs : List Loc) (ls : Array Slot), Wd D A s (wE q cI cZ σ) H locs → lv_has ls 6 [(0, .ref (q 35)), (1, .ref (q 15)), (2, .int (zI x2)), (3, .int (zI x3)), (4, .int (zI x4)), (5, .int (zI x5))] → k11 σ x2 x3 x4 x5 = some τ → W p l e rmX7_weigh s m args below meth c H locs 0 0 Q (F0 m 11 ls [])) :
    ∀ (σ : St) (x2 : Int) (x3 : Int) (x5 : Int) (t0 : Int) (t1 : Int) (H : Heap) (locs : List Loc) (ls : Array Slot), Wd D A s (wE q cI cZ σ) H locs → lv_has ls 6 [(0, .ref (q 35)), (1, .ref (q 15)), (2, .int (zI x2)), (3, .int (zI x3)), (5, .int (zI x5))] → pX7_weigh_40 k11 σ x2 x3 x5 t0 t1 = some τ → W p l e rmX7_weigh s m args below meth c H locs 0 0 Q (F0 m 40 ls [.int (zI t1), .int (zI t0)]) := by
  obtain ⟨hx, hb, hr, hml, hown, hts, hlk, hK, hN⟩ := id C
  intro σ x2 x3 x5 t0 t1 H locs ls hw hl hf
  rw [pX7_weigh_40] at hf
  refine zv_iadd hx hb dX7_weigh_40 ?_
  refine lv_istore (lv' := [(4, .int (zI (t0 + t1))), (0, .ref (q 35)), (1, .ref (q 15)), (2, .int (zI x2)), (3, .int (zI x3)), (5, .int (zI x5))]) hx hb dX7_weigh_41 hl (by decide) rfl (fun ls hl => ?_)
  refine lv_iinc (v := zI (x5 + 1)) (lv' := [(5, .int (zI (x5 + 1))), (4, .int (zI (t0 + t1))), (0, .ref (q 35)), (1, .ref (q 15)), (2, .int (zI x2)), (3, .int (zI x3))]) hx hb dX7_weigh_43 hl (k := 5) rfl (zI_add _ _) (by decide) rfl (fun ls hl => ?_)
  refine lv_goto (tgt := 11) hx hb dX7_weigh_46 (by decide) ?_
  exact hk11 σ x2 x3 (t0 + t1) (x5 + 1) H locs ls hw (lv_sub hl [2, 3, 4, 5, 1, 0] rfl) hf
set_option maxHeartbeats 4000000 in
set_option maxRecDepth 100000 in
theorem wX7_weigh_97 {p : Program} {l : Launch} {e : Env} {s : State} {m : MethodId} {args : Array Value} {below : List Frame} {meth : Method} {c : Code} {D : va_G} {A : Nat → Prop} {q : Nat → Nat} {cI cZ : ClassId} {Q : State → Prop} {τ : St} (C : Cx p s m args meth c D (TY cI cZ) cX7_weigh none 6 wsX7_weigh RX7) (hret : RtV p l e rmX7_weigh s m args below meth c D A cX7_weigh Q (wE q cI cZ τ)) :
    ∀ (σ : St) (x2 : Int) (x3 : Int) (x4 : Int) (H : Heap) (locs : List Loc) (ls : Array Slot), Wd D A s (wE q cI cZ σ) H locs → lv_has ls 6 [(0, .ref (q 35)), (2, .int (zI x2)), (3, .int (zI x3)), (4, .int (zI x4))] → pX7_weigh_97 σ x2 x3 x4 = some τ → W p l e rmX7_weigh s m args below meth c H locs 0 0 Q (F0 m 97 ls []) := by
  obtain ⟨hx, hb, hr, hml, hown, hts, hlk, hK, hN⟩ := id C
  intro σ x2 x3 x4 H locs ls hw hl hf
  rw [pX7_weigh_97] at hf
  refine lv_aload_n hx hb dX7_weigh_97 rfl (lv_at hl 0 rfl) ?_
  refine lv_iload_n hx hb dX7_weigh_98 rfl (lv_at hl 2 rfl) ?_
  refine va_put (D := D) (ci := 7) (v := .int (zI x3)) (ty := .int) (C := RX7) (T := TX7) (N := 3) hx hb hts (fun _ h => List.mem_cons_of_mem _ (List.mem_append_left _ (List.mem_append_right _ h))) tyX7 tyX7_ok nmX7 hown hK hw.1 hw.2.1 hw.2.2 35 rfl rfl 0 (by decide) (hts (.fieldLink RX7 9 "EggThrones$Succession" "kings" "I") (List.mem_of_getElem? (i := 1) rfl)) (fun _ h9 => h9) rfl (by decide +kernel) rfl rfl (Nat.le_of_ble_eq_true rfl) dX7_weigh_99 (fun H locs hP hD hS => ?_)
  have hw : Wd D A s (wE q cI cZ (sI σ 28 x3)) H locs := wdiE_28 hP hD hS
  obtain ⟨σ99, e99, hf⟩ := nm_s hf
  replace hf := bt_s hf
  rw [← e99] at hw
  refine lv_aload_n hx hb dX7_weigh_102 rfl (lv_at hl 0 rfl) ?_
  refine lv_iload hx hb dX7_weigh_103 (lv_at hl 3 rfl) ?_
  refine va_put (D := D) (ci := 7) (v := .int (zI x4)) (ty := .int) (C := RX7) (T := TX7) (N := 3) hx hb hts (fun _ h => List.mem_cons_of_mem _ (List.mem_append_left _ (List.mem_append_right _ h))) tyX7 tyX7_ok nmX7 hown hK hw.1 hw.2.1 hw.2.2 35 rfl rfl 1 (by decide) (hts (.fieldLink RX7 15 "EggThrones$Succession" "minutes" "I") (List.mem_of_getElem? (i := 2) rfl)) (fun _ h9 => h9) rfl (by decide +kernel) rfl rfl (Nat.le_of_ble_eq_true rfl) dX7_weigh_105 (fun H locs hP hD hS => ?_)
  have hw : Wd D A s (wE q cI cZ (sI σ99 29 x4)) H locs := wdiE_29 hP hD hS
  obtain ⟨σ105, e105, hf⟩ := nm_s hf
  replace hf := bt_s hf
  rw [← e105] at hw
  refine lv_aload_n hx hb dX7_weigh_108 rfl (lv_at hl 0 rfl) ?_
  refine lv_iload_n hx hb dX7_weigh_109 rfl (lv_at hl 1 rfl) ?_
  refine va_put (D := D) (ci := 7) (v := .int (zI x2)) (ty := .int) (C := RX7) (T := TX7) (N := 3) hx hb hts (fun _ h => List.mem_cons_of_mem _ (List.mem_append_left _ (List.mem_append_right _ h))) tyX7 tyX7_ok nmX7 hown hK hw.1 hw.2.1 hw.2.2 35 rfl rfl 2 (by decide) (hts (.fieldLink RX7 18 "EggThrones$Succession" "set" "I") (List.mem_of_getElem? (i := 3) rfl)) (fun _ h9 => h9) rfl (by decide +kernel) rfl rfl (Nat.le_of_ble_eq_true rfl) dX7_weigh_110 (fun H locs hP hD hS => ?_)
  have hw : Wd D A s (wE q cI cZ (sI σ105 30 x2)) H locs := wdiE_30 hP hD hS
  obtain ⟨σ110, e110, hf⟩ := nm_s hf
  replace hf := bt_s hf
  rw [← e110] at hw
  cases hf
  exact hret H locs ls 113 dX7_weigh_113 hw
set_option maxHeartbeats 4000000 in
set_option maxRecDepth 100000 in
theorem wX7_weigh_65 {p : Program} {l : Launch} {e : Env} {s : State} {m : MethodId} {args : Array Value} {below : List Frame} {meth : Method} {c : Code} {D : va_G} {A : Nat → Prop} {q : Nat → Nat} {cI cZ : ClassId} {Q : State → Prop} {τ : St} (C : Cx p s m args meth c D (TY cI cZ) cX7_weigh none 6 wsX7_weigh RX7) (hret : RtV p l e rmX7_weigh s m args below meth c D A cX7_weigh Q (wE q cI cZ τ)) :
    ∀ (σ : St) (x2 : Int) (x3 : Int) (x4 : Int) (t0 : Int) (H : Heap) (locs : List Loc) (ls : Array Slot), Wd D A s (wE q cI cZ σ) H locs → lv_has ls 6 [(0, .ref (q 35)), (2, .int (zI x2)), (3, .int (zI x3)), (4, .int (zI x4))] → pX7_weigh_65 σ x2 x3 x4 t0 = some τ → W p l e rmX7_weigh s m args below meth c H locs 0 0 Q (F0 m 65 ls [.int (zI t0)]) := by
  obtain ⟨hx, hb, hr, hml, hown, hts, hlk, hK, hN⟩ := id C
  intro σ x2 x3 x4 t0 H locs ls hw hl hf
  rw [pX7_weigh_65] at hf
  refine lv_istore (lv' := [(5, .int (zI t0)), (0, .ref (q 35)), (2, .int (zI x2)), (3, .int (zI x3)), (4, .int (zI x4))]) hx hb dX7_weigh_65 hl (by decide) rfl (fun ls hl => ?_)
  refine lv_iload hx hb dX7_weigh_67 (lv_at hl 0 rfl) ?_
  obtain ⟨hg69, hf⟩ := gd_s hf
  refine zv_if_eq (tgt := 113) hx hb hg69 dX7_weigh_69 (by decide) (fun (c69 : t0 = 0) => ?_) (fun (c69 : ¬ (t0 = 0)) => ?_)
  · rw [if_pos c69] at hf
    cases hf
    exact hret H locs ls 113 dX7_weigh_113 hw
  · rw [if_neg c69] at hf
    refine lv_iload_n hx hb dX7_weigh_72 rfl (lv_at hl 3 rfl) ?_
    refine lv_aload_n hx hb dX7_weigh_73 rfl (lv_at hl 1 rfl) ?_
    refine va_get (D := D) (ci := 7) (v := .int (zI (σ.1 28))) (C := RX7) (T := TX7) (N := 3) hx hb hts (fun _ h => List.mem_cons_of_mem _ (List.mem_append_left _ (List.mem_append_right _ h))) hown hK hw.1 35 rfl rfl 0 (by decide) (hts (.fieldLink RX7 9 "EggThrones$Succession" "kings" "I") (List.mem_of_getElem? (i := 1) rfl)) (fun _ h9 => h9) rfl dX7_weigh_74 ?_
    obtain ⟨hg77, hf⟩ := gd_s hf
    refine zv_icmp_gt (tgt := 97) hx hb hg77 dX7_weigh_77 (by decide) (fun (c77 : (σ.1 28) < x3) => ?_) (fun (c77 : ¬ ((σ.1 28) < x3)) => ?_)
    · rw [if_pos c77] at hf
      exact wX7_weigh_97 C hret σ x2 x3 x4 H locs ls hw (lv_sub hl [1, 2, 3, 4] rfl) hf
    · rw [if_neg c77] at hf
      refine lv_iload_n hx hb dX7_weigh_80 rfl (lv_at hl 3 rfl) ?_
      refine lv_aload_n hx hb dX7_weigh_81 rfl (lv_at hl 1 rfl) ?_
      refine va_get (D := D) (ci := 7) (v := .int (zI (σ.1 28))) (C := RX7) (T := TX7) (N := 3) hx hb hts (fun _ h => List.mem_cons_of_mem _ (List.mem_append_left _ (List.mem_append_right _ h))) hown hK hw.1 35 rfl rfl 0 (by decide) (hts (.fieldLink RX7 9 "EggThrones$Succession" "kings" "I") (List.mem_of_getElem? (i := 1) rfl)) (fun _ h9 => h9) rfl dX7_weigh_82 ?_
      obtain ⟨hg85, hf⟩ := gd_s hf
      refine zv_icmp_ne (tgt := 113) hx hb hg85 dX7_weigh_85 (by decide) (fun (c85 : ¬ (x3 = (σ.1 28))) => ?_) (fun (c85 : x3 = (σ.1 28)) => ?_)
      · rw [if_neg c85] at hf
        cases hf
        exact hret H locs ls 113 dX7_weigh_113 hw
      · rw [if_pos c85] at hf
        refine lv_iload hx hb dX7_weigh_88 (lv_at hl 4 rfl) ?_
        refine lv_aload_n hx hb dX7_weigh_90 rfl (lv_at hl 1 rfl) ?_
        refine va_get (D := D) (ci := 7) (v := .int (zI (σ.1 29))) (C := RX7) (T := TX7) (N := 3) hx hb hts (fun _ h => List.mem_cons_of_mem _ (List.mem_append_left _ (List.mem_append_right _ h))) hown hK hw.1 35 rfl rfl 1 (by decide) (hts (.fieldLink RX7 15 "EggThrones$Succession" "minutes" "I") (List.mem_of_getElem? (i := 2) rfl)) (fun _ h9 => h9) rfl dX7_weigh_91 ?_
        obtain ⟨hg94, hf⟩ := gd_s hf
        refine zv_icmp_le (tgt := 113) hx hb hg94 dX7_weigh_94 (by decide) (fun (c94 : x4 ≤ (σ.1 29)) => ?_) (fun (c94 : ¬ (x4 ≤ (σ.1 29))) => ?_)
        · rw [if_pos c94] at hf
          cases hf
          exact hret H locs ls 113 dX7_weigh_113 hw
        · rw [if_neg c94] at hf
          exact wX7_weigh_97 C hret σ x2 x3 x4 H locs ls hw (lv_sub hl [1, 2, 3, 4] rfl) hf
set_option maxHeartbeats 4000000 in
set_option maxRecDepth 100000 in
theorem wX7_weigh_11 {p : Program} {l : Launch} {e : Env} {s : State} {m : MethodId} {args : Array Value} {below : List Frame} {meth : Method} {c : Code} {D : va_G} {A : Nat → Prop} {q : Nat → Nat} {cI cZ : ClassId} {Q : State → Prop} {τ : St} (C : Cx p s m args meth c D (TY cI cZ) cX7_weigh none 6 wsX7_weigh RX7) (hret : RtV p l e rmX7_weigh s m args below meth c D A cX7_weigh Q (wE q cI cZ τ)) :
    ∀ (n : Nat) (σ : St) (x2 : Int) (x3 : Int) (x4 : Int) (x5 : Int) (H : Heap) (locs : List Loc) (ls : Array Slot), Wd D A s (wE q cI cZ σ) H locs → lv_has ls 6 [(0, .ref (q 35)), (1, .ref (q 15)), (2, .int (zI x2)), (3, .int (zI x3)), (4, .int (zI x4)), (5, .int (zI x5))] → pX7_weigh_11 n σ x2 x3 x4 x5 = some τ → W p l e rmX7_weigh s m args below meth c H locs 0 0 Q (F0 m 11 ls []) := by
  obtain ⟨hx, hb, hr, hml, hown, hts, hlk, hK, hN⟩ := id C
  intro n
  induction n with
  | zero =>
    intro σ x2 x3 x4 x5 H locs ls hw hl hf
    exact absurd (show (none : Option (St)) = some τ from hf) (by simp)
  | succ n ih =>
    intro σ x2 x3 x4 x5 H locs ls hw hl hf
    rw [pX7_weigh_11] at hf
    refine lv_iload hx hb dX7_weigh_11 (lv_at hl 5 rfl) ?_
    refine lv_bipush (v := zI 7) hx hb dX7_weigh_13 (by decide +kernel) ?_
    obtain ⟨hg15, hf⟩ := gd_s hf
    refine zv_icmp_ge (tgt := 49) hx hb ⟨hg15, by decide⟩ dX7_weigh_15 (by decide) (fun (c15 : 7 ≤ x5) => ?_) (fun (c15 : ¬ (7 ≤ x5)) => ?_)
    · rw [if_pos c15] at hf
      refine lv_iconst (v := zI 2) hx hb dX7_weigh_49 rfl ?_
      refine lv_iload hx hb dX7_weigh_50 (lv_at hl 4 rfl) ?_
      refine zv_imul hx hb dX7_weigh_52 ?_
      refine lv_aload_n hx hb dX7_weigh_53 rfl (lv_at hl 1 rfl) ?_
      refine va_getN (D := D) (ci := 4) (v := .int (zI (σ.1 18))) (C := RX4) (T := TX4) (N := 9) hx hb hts (fun _ h => List.mem_cons_of_mem _ (List.mem_append_left _ (List.mem_append_left _ (List.mem_append_right _ h)))) hown hK hw.1 15 rfl rfl 5 (by decide) (va_Nw.use rfl (hN (.fieldLinkNest "EggThrones$Succession" 39 "EggThrones$Morning" "soldiers" "I" "EggThrones") (by decide +kernel))) (fun _ h9 => h9) rfl dX7_weigh_54 ?_
      obtain ⟨hg57, hf⟩ := gd_s hf
      refine zv_icmp_gt (tgt := 64) hx hb hg57 dX7_weigh_57 (by decide) (fun (c57 : (σ.1 18) < (2 * x4)) => ?_) (fun (c57 : ¬ ((σ.1 18) < (2 * x4))) => ?_)
      · rw [if_pos c57] at hf
        refine lv_iconst (v := zI 0) hx hb dX7_weigh_64 rfl ?_
        exact wX7_weigh_65 C hret σ x2 x3 x4 0 H locs ls hw (lv_sub hl [0, 2, 3, 4] rfl) hf
      · rw [if_neg c57] at hf
        refine lv_iconst (v := zI 1) hx hb dX7_weigh_60 rfl ?_
        refine lv_goto (tgt := 65) hx hb dX7_weigh_61 (by decide) ?_
        exact wX7_weigh_65 C hret σ x2 x3 x4 1 H locs ls hw (lv_sub hl [0, 2, 3, 4] rfl) hf
    · rw [if_neg c15] at hf
      refine lv_iload hx hb dX7_weigh_18 (lv_at hl 4 rfl) ?_
      refine lv_iload_n hx hb dX7_weigh_20 rfl (lv_at hl 2 rfl) ?_
      refine lv_iload hx hb dX7_weigh_21 (lv_at hl 5 rfl) ?_
      refine zv_ishr hx hb dX7_weigh_23 ?_
      refine lv_iconst (v := zI 1) hx hb dX7_weigh_24 rfl ?_
      refine zv_iand hx hb dX7_weigh_25 ?_
      refine lv_iconst (v := zI 1) hx hb dX7_weigh_26 rfl ?_
      obtain ⟨hg27, hf⟩ := gd_s hf
      refine zv_icmp_ne (tgt := 39) hx hb ⟨hg27, by decide⟩ dX7_weigh_27 (by decide) (fun (c27 : ¬ ((zAnd (zShr x2 x5) 1) = 1)) => ?_) (fun (c27 : (zAnd (zShr x2 x5) 1) = 1) => ?_)
      · rw [if_neg c27] at hf
        refine lv_iconst (v := zI 0) hx hb dX7_weigh_39 rfl ?_
        exact wX7_weigh_40 C hret _ ih σ x2 x3 x5 x4 0 H locs ls hw (lv_sub hl [0, 1, 2, 3, 5] rfl) hf
      · rw [if_pos c27] at hf
        refine lv_aload_n hx hb dX7_weigh_30 rfl (lv_at hl 1 rfl) ?_
        refine lv_iload hx hb dX7_weigh_31 (lv_at hl 5 rfl) ?_
        obtain ⟨r33, h33, hf⟩ := bd_s hf
        replace hf := bt_s hf
        refine gVi (As := [.int (zI x5)]) (rest := [.int (zI x4)]) C hw (tX4_reignOf h33) (cwV 1 hts gX7_weigh_X4_reignOf rfl rfl rfl (by decide +kernel) ⟨Nat.le_of_ble_eq_true rfl, Nat.le_of_ble_eq_true rfl⟩) 4 15 rfl rfl rfl hl.1 rfl (Nat.le_of_ble_eq_true rfl) dX7_weigh_33 (fun H locs hw => ?_)
        refine lv_goto (tgt := 40) hx hb dX7_weigh_36 (by decide) ?_
        exact wX7_weigh_40 C hret _ ih σ x2 x3 x5 x4 r33 H locs ls hw (lv_sub hl [0, 1, 2, 3, 5] rfl) hf
set_option maxHeartbeats 4000000 in
set_option maxRecDepth 100000 in
theorem wX7_weigh_0 {p : Program} {l : Launch} {e : Env} {s : State} {m : MethodId} {args : Array Value} {below : List Frame} {meth : Method} {c : Code} {D : va_G} {A : Nat → Prop} {q : Nat → Nat} {cI cZ : ClassId} {Q : State → Prop} {τ : St} (C : Cx p s m args meth c D (TY cI cZ) cX7_weigh none 6 wsX7_weigh RX7) (hret : RtV p l e rmX7_weigh s m args below meth c D A cX7_weigh Q (wE q cI cZ τ)) :
    ∀ (σ : St) (x2 : Int) (H : Heap) (locs : List Loc) (ls : Array Slot), Wd D A s (wE q cI cZ σ) H locs → lv_has ls 6 [(0, .ref (q 35)), (1, .ref (q 15)), (2, .int (zI x2))] → pX7_weigh_0 σ x2 = some τ → W p l e rmX7_weigh s m args below meth c H locs 0 0 Q (F0 m 0 ls []) := by
  obtain ⟨hx, hb, hr, hml, hown, hts, hlk, hK, hN⟩ := id C
  intro σ x2 H locs ls hw hl hf
  rw [pX7_weigh_0] at hf
  refine lv_iload_n hx hb dX7_weigh_0 rfl (lv_at hl 2 rfl) ?_
  obtain ⟨r1, h1, hf⟩ := bd_s hf
  replace hf := bt_s hf
  refine gSi (As := [.int (zI x2)]) (rest := []) C hw (tJ6_bitCount_0f7a4 h1) (va_cwS 1 hts gX7_weigh_J6_bitCount_0f7a4 rfl rfl rfl (by decide +kernel) ⟨Nat.le_of_ble_eq_true rfl, Nat.le_of_ble_eq_true rfl⟩) rfl hl.1 rfl (Nat.le_of_ble_eq_true rfl) dX7_weigh_1 (fun H locs hw => ?_)
  refine lv_istore_n (lv' := [(3, .int (zI r1)), (0, .ref (q 35)), (1, .ref (q 15)), (2, .int (zI x2))]) hx hb dX7_weigh_4 rfl hl (by decide) rfl (fun ls hl => ?_)
  refine lv_iconst (v := zI 0) hx hb dX7_weigh_5 rfl ?_
  refine lv_istore (lv' := [(4, .int (zI 0)), (3, .int (zI r1)), (0, .ref (q 35)), (1, .ref (q 15)), (2, .int (zI x2))]) hx hb dX7_weigh_6 hl (by decide) rfl (fun ls hl => ?_)
  refine lv_iconst (v := zI 0) hx hb dX7_weigh_8 rfl ?_
  refine lv_istore (lv' := [(5, .int (zI 0)), (4, .int (zI 0)), (3, .int (zI r1)), (0, .ref (q 35)), (1, .ref (q 15)), (2, .int (zI x2))]) hx hb dX7_weigh_9 hl (by decide) rfl (fun ls hl => ?_)
  exact wX7_weigh_11 C hret FU σ x2 r1 0 0 H locs ls hw (lv_sub hl [3, 4, 5, 2, 1, 0] rfl) hf
set_option maxHeartbeats 4000000 in
set_option maxRecDepth 100000 in
theorem tX7_weigh {l : Launch} {D : va_G} {A : Nat → Prop} {cI cZ : ClassId} {q : Nat → Nat} {σ : St} {x2 : Int} {τ : St} (hf : pX7_weigh σ x2 = some τ) : Met l yX7_weigh wsX7_weigh rmX7_weigh (va_Pc [.ref (q 35), .ref (q 15), .int (zI x2)] (CX D (TY cI cZ) A (wE q cI cZ σ))) (QV D (TY cI cZ) A (wE q cI cZ τ)) 0 0 A := by
  refine opn (cc := cX7_weigh) (maxL := 6) (ret := none) (by decide) rfl (Nat.le_of_ble_eq_true rfl) (fun p e s m below meth c C ls hw hl => ?_)
  have hl : lv_has ls 6 [(0, .ref (q 35)), (1, .ref (q 15)), (2, .int (zI x2))] := hl
  rw [pX7_weigh] at hf
  exact wX7_weigh_0 C (rtV C) σ x2 _ _ ls hw (lv_sub hl [0, 1, 2] rfl) hf
abbrev rmX7_tryAll : Room := { frames := 5, cells := 0, slots := 0, locals := 121 }
set_option maxHeartbeats 4000000 in
set_option maxRecDepth 100000 in
theorem wX7_tryAll_44 {p : Program} {l : Launch} {e : Env} {s : State} {m : MethodId} {args : Array Value} {below : List Frame} {meth : Method} {c : Code} {D : va_G} {A : Nat → Prop} {q : Nat → Nat} {cI cZ : ClassId} {Q : State → Prop} {τ : St} (C : Cx p s m args meth c D (TY cI cZ) cX7_tryAll none 4 wsX7_tryAll RX7) (hret : RtV p l e rmX7_tryAll s m args below meth c D A cX7_tryAll Q (wE q cI cZ τ)) (k23 : St → Int → Int → Option (St)) (hk23 : ∀ (σ : St) (x2 : Int) (x3 : Int) (H : Heap) (locs : List Loc) (ls : Array Slot), Wd D A s (wE q cI cZ σ) H locs → lv_has ls 4 [(0, .ref (q 35)), (1, .ref (q 15)), (2, .int (zI x2)), (3, .int (zI x3))] → k23 σ x2 x3 = some τ → W p l e rmX7_tryAll s m args below meth c H locs 0 0 Q (F0 m 23 ls [])) :
    ∀ (σ : St) (x2 : Int) (x3 : Int) (H : Heap) (locs : List Loc) (ls : Array Slot), Wd D A s (wE q cI cZ σ) H locs → lv_has ls 4 [(0, .ref (q 35)), (1, .ref (q 15)), (2, .int (zI x2)), (3, .int (zI x3))] → pX7_tryAll_44 k23 σ x2 x3 = some τ → W p l e rmX7_tryAll s m args below meth c H locs 0 0 Q (F0 m 44 ls []) := by
  obtain ⟨hx, hb, hr, hml, hown, hts, hlk, hK, hN⟩ := id C
  intro σ x2 x3 H locs ls hw hl hf
  rw [pX7_tryAll_44] at hf
  refine lv_iinc (v := zI (x3 + 1)) (lv' := [(3, .int (zI (x3 + 1))), (0, .ref (q 35)), (1, .ref (q 15)), (2, .int (zI x2))]) hx hb dX7_tryAll_44 hl (k := 3) rfl (zI_add _ _) (by decide) rfl (fun ls hl => ?_)
  refine lv_goto (tgt := 23) hx hb dX7_tryAll_47 (by decide) ?_
  exact hk23 σ x2 (x3 + 1) H locs ls hw (lv_sub hl [1, 2, 3, 0] rfl) hf
set_option maxHeartbeats 4000000 in
set_option maxRecDepth 100000 in
theorem wX7_tryAll_23 {p : Program} {l : Launch} {e : Env} {s : State} {m : MethodId} {args : Array Value} {below : List Frame} {meth : Method} {c : Code} {D : va_G} {A : Nat → Prop} {q : Nat → Nat} {cI cZ : ClassId} {Q : State → Prop} {τ : St} (C : Cx p s m args meth c D (TY cI cZ) cX7_tryAll none 4 wsX7_tryAll RX7) (hret : RtV p l e rmX7_tryAll s m args below meth c D A cX7_tryAll Q (wE q cI cZ τ)) :
    ∀ (n : Nat) (σ : St) (x2 : Int) (x3 : Int) (H : Heap) (locs : List Loc) (ls : Array Slot), Wd D A s (wE q cI cZ σ) H locs → lv_has ls 4 [(0, .ref (q 35)), (1, .ref (q 15)), (2, .int (zI x2)), (3, .int (zI x3))] → pX7_tryAll_23 n σ x2 x3 = some τ → W p l e rmX7_tryAll s m args below meth c H locs 0 0 Q (F0 m 23 ls []) := by
  obtain ⟨hx, hb, hr, hml, hown, hts, hlk, hK, hN⟩ := id C
  intro n
  induction n with
  | zero =>
    intro σ x2 x3 H locs ls hw hl hf
    exact absurd (show (none : Option (St)) = some τ from hf) (by simp)
  | succ n ih =>
    intro σ x2 x3 H locs ls hw hl hf
    rw [pX7_tryAll_23] at hf
    refine lv_iload_n hx hb dX7_tryAll_23 rfl (lv_at hl 3 rfl) ?_
    refine lv_sipush (v := zI 128) hx hb dX7_tryAll_24 (by decide +kernel) ?_
    obtain ⟨hg27, hf⟩ := gd_s hf
    refine zv_icmp_ge (tgt := 50) hx hb ⟨hg27, by decide⟩ dX7_tryAll_27 (by decide) (fun (c27 : 128 ≤ x3) => ?_) (fun (c27 : ¬ (128 ≤ x3)) => ?_)
    · rw [if_pos c27] at hf
      cases hf
      exact hret H locs ls 50 dX7_tryAll_50 hw
    · rw [if_neg c27] at hf
      refine lv_iload_n hx hb dX7_tryAll_30 rfl (lv_at hl 3 rfl) ?_
      refine lv_iload_n hx hb dX7_tryAll_31 rfl (lv_at hl 2 rfl) ?_
      refine lv_iconst (v := zI (-1)) hx hb dX7_tryAll_32 rfl ?_
      refine zv_ixor hx hb dX7_tryAll_33 ?_
      refine zv_iand hx hb dX7_tryAll_34 ?_
      obtain ⟨hg35, hf⟩ := gd_s hf
      refine zv_if_ne (tgt := 44) hx hb hg35 dX7_tryAll_35 (by decide) (fun (c35 : ¬ ((zAnd x3 (zXor x2 (-1))) = 0)) => ?_) (fun (c35 : (zAnd x3 (zXor x2 (-1))) = 0) => ?_)
      · rw [if_neg c35] at hf
        exact wX7_tryAll_44 C hret _ ih σ x2 x3 H locs ls hw (lv_sub hl [0, 1, 2, 3] rfl) hf
      · rw [if_pos c35] at hf
        refine lv_aload_n hx hb dX7_tryAll_38 rfl (lv_at hl 0 rfl) ?_
        refine lv_aload_n hx hb dX7_tryAll_39 rfl (lv_at hl 1 rfl) ?_
        refine lv_iload_n hx hb dX7_tryAll_40 rfl (lv_at hl 3 rfl) ?_
        obtain ⟨σ41, h41, hf⟩ := bd_s hf
        replace hf := bt_s hf
        refine gVv (As := [.ref (q 15), .int (zI x3)]) (rest := []) C hw (tX7_weigh h41) (cwV 2 hts gX7_tryAll_X7_weigh rfl rfl rfl (by decide +kernel) ⟨Nat.le_of_ble_eq_true rfl, Nat.le_of_ble_eq_true rfl⟩) 7 35 rfl rfl rfl hl.1 rfl (Nat.le_of_ble_eq_true rfl) dX7_tryAll_41 (fun H locs hw => ?_)
        exact wX7_tryAll_44 C hret _ ih σ41 x2 x3 H locs ls hw (lv_sub hl [0, 1, 2, 3] rfl) hf
set_option maxHeartbeats 4000000 in
set_option maxRecDepth 100000 in
theorem wX7_tryAll_0 {p : Program} {l : Launch} {e : Env} {s : State} {m : MethodId} {args : Array Value} {below : List Frame} {meth : Method} {c : Code} {D : va_G} {A : Nat → Prop} {q : Nat → Nat} {cI cZ : ClassId} {Q : State → Prop} {τ : St} (C : Cx p s m args meth c D (TY cI cZ) cX7_tryAll none 4 wsX7_tryAll RX7) (hret : RtV p l e rmX7_tryAll s m args below meth c D A cX7_tryAll Q (wE q cI cZ τ)) :
    ∀ (σ : St) (H : Heap) (locs : List Loc) (ls : Array Slot), Wd D A s (wE q cI cZ σ) H locs → lv_has ls 4 [(0, .ref (q 35)), (1, .ref (q 15))] → pX7_tryAll_0 σ = some τ → W p l e rmX7_tryAll s m args below meth c H locs 0 0 Q (F0 m 0 ls []) := by
  obtain ⟨hx, hb, hr, hml, hown, hts, hlk, hK, hN⟩ := id C
  intro σ H locs ls hw hl hf
  rw [pX7_tryAll_0] at hf
  refine lv_aload_n hx hb dX7_tryAll_0 rfl (lv_at hl 0 rfl) ?_
  refine lv_iconst (v := zI 0) hx hb dX7_tryAll_1 rfl ?_
  refine va_put (D := D) (ci := 7) (v := .int (zI 0)) (ty := .int) (C := RX7) (T := TX7) (N := 3) hx hb hts (fun _ h => List.mem_cons_of_mem _ (List.mem_append_left _ (List.mem_append_left _ (List.mem_append_right _ h)))) tyX7 tyX7_ok nmX7 hown hK hw.1 hw.2.1 hw.2.2 35 rfl rfl 0 (by decide) (hts (.fieldLink RX7 9 "EggThrones$Succession" "kings" "I") (List.mem_of_getElem? (i := 1) rfl)) (fun _ h9 => h9) rfl (by decide +kernel) rfl rfl (Nat.le_of_ble_eq_true rfl) dX7_tryAll_2 (fun H locs hP hD hS => ?_)
  have hw : Wd D A s (wE q cI cZ (sI σ 28 0)) H locs := wdiE_28 hP hD hS
  obtain ⟨σ2, e2, hf⟩ := nm_s hf
  replace hf := bt_s hf
  rw [← e2] at hw
  refine lv_aload_n hx hb dX7_tryAll_5 rfl (lv_at hl 0 rfl) ?_
  refine lv_iconst (v := zI 0) hx hb dX7_tryAll_6 rfl ?_
  refine va_put (D := D) (ci := 7) (v := .int (zI 0)) (ty := .int) (C := RX7) (T := TX7) (N := 3) hx hb hts (fun _ h => List.mem_cons_of_mem _ (List.mem_append_left _ (List.mem_append_left _ (List.mem_append_right _ h)))) tyX7 tyX7_ok nmX7 hown hK hw.1 hw.2.1 hw.2.2 35 rfl rfl 1 (by decide) (hts (.fieldLink RX7 15 "EggThrones$Succession" "minutes" "I") (List.mem_of_getElem? (i := 2) rfl)) (fun _ h9 => h9) rfl (by decide +kernel) rfl rfl (Nat.le_of_ble_eq_true rfl) dX7_tryAll_7 (fun H locs hP hD hS => ?_)
  have hw : Wd D A s (wE q cI cZ (sI σ2 29 0)) H locs := wdiE_29 hP hD hS
  obtain ⟨σ7, e7, hf⟩ := nm_s hf
  replace hf := bt_s hf
  rw [← e7] at hw
  refine lv_aload_n hx hb dX7_tryAll_10 rfl (lv_at hl 0 rfl) ?_
  refine lv_iconst (v := zI 0) hx hb dX7_tryAll_11 rfl ?_
  refine va_put (D := D) (ci := 7) (v := .int (zI 0)) (ty := .int) (C := RX7) (T := TX7) (N := 3) hx hb hts (fun _ h => List.mem_cons_of_mem _ (List.mem_append_left _ (List.mem_append_left _ (List.mem_append_right _ h)))) tyX7 tyX7_ok nmX7 hown hK hw.1 hw.2.1 hw.2.2 35 rfl rfl 2 (by decide) (hts (.fieldLink RX7 18 "EggThrones$Succession" "set" "I") (List.mem_of_getElem? (i := 3) rfl)) (fun _ h9 => h9) rfl (by decide +kernel) rfl rfl (Nat.le_of_ble_eq_true rfl) dX7_tryAll_12 (fun H locs hP hD hS => ?_)
  have hw : Wd D A s (wE q cI cZ (sI σ7 30 0)) H locs := wdiE_30 hP hD hS
  obtain ⟨σ12, e12, hf⟩ := nm_s hf
  replace hf := bt_s hf
  rw [← e12] at hw
  refine lv_aload_n hx hb dX7_tryAll_15 rfl (lv_at hl 1 rfl) ?_
  refine lv_iconst (v := zI 2) hx hb dX7_tryAll_16 rfl ?_
  obtain ⟨r17, h17, hf⟩ := bd_s hf
  replace hf := bt_s hf
  refine gVi (As := [.int (zI 2)]) (rest := []) C hw (tX4_setThatIs h17) (cwV 1 hts gX7_tryAll_X4_setThatIs rfl rfl rfl (by decide +kernel) ⟨Nat.le_of_ble_eq_true rfl, Nat.le_of_ble_eq_true rfl⟩) 4 15 rfl rfl rfl hl.1 rfl (Nat.le_of_ble_eq_true rfl) dX7_tryAll_17 (fun H locs hw => ?_)
  refine lv_istore_n (lv' := [(2, .int (zI r17)), (0, .ref (q 35)), (1, .ref (q 15))]) hx hb dX7_tryAll_20 rfl hl (by decide) rfl (fun ls hl => ?_)
  refine lv_iconst (v := zI 1) hx hb dX7_tryAll_21 rfl ?_
  refine lv_istore_n (lv' := [(3, .int (zI 1)), (2, .int (zI r17)), (0, .ref (q 35)), (1, .ref (q 15))]) hx hb dX7_tryAll_22 rfl hl (by decide) rfl (fun ls hl => ?_)
  exact wX7_tryAll_23 C hret FU σ12 r17 1 H locs ls hw (lv_sub hl [2, 3, 1, 0] rfl) hf
set_option maxHeartbeats 4000000 in
set_option maxRecDepth 100000 in
theorem tX7_tryAll {l : Launch} {D : va_G} {A : Nat → Prop} {cI cZ : ClassId} {q : Nat → Nat} {σ : St} {τ : St} (hf : pX7_tryAll σ = some τ) : Met l yX7_tryAll wsX7_tryAll rmX7_tryAll (va_Pc [.ref (q 35), .ref (q 15)] (CX D (TY cI cZ) A (wE q cI cZ σ))) (QV D (TY cI cZ) A (wE q cI cZ τ)) 0 0 A := by
  refine opn (cc := cX7_tryAll) (maxL := 4) (ret := none) (by decide) rfl (Nat.le_of_ble_eq_true rfl) (fun p e s m below meth c C ls hw hl => ?_)
  have hl : lv_has ls 4 [(0, .ref (q 35)), (1, .ref (q 15))] := hl
  rw [pX7_tryAll] at hf
  exact wX7_tryAll_0 C (rtV C) σ _ _ ls hw (lv_sub hl [0, 1] rfl) hf
abbrev rmX10_dynasty : Room := { frames := 6, cells := 0, slots := 0, locals := 144 }
set_option maxHeartbeats 4000000 in
set_option maxRecDepth 100000 in
theorem wX10_dynasty_0 {p : Program} {l : Launch} {e : Env} {s : State} {m : MethodId} {args : Array Value} {below : List Frame} {meth : Method} {c : Code} {D : va_G} {A : Nat → Prop} {q : Nat → Nat} {cI cZ : ClassId} {Q : State → Prop} {r : Int} {τ : St} (C : Cx p s m args meth c D (TY cI cZ) cX10_dynasty (some .int) 2 wsX10_dynasty RX10) (hret : RtI p l e rmX10_dynasty s m args below meth c D A cX10_dynasty Q (wE q cI cZ τ) (zI r)) :
    ∀ (σ : St) (x1 : Int) (H : Heap) (locs : List Loc) (ls : Array Slot), Wd D A s (wE q cI cZ σ) H locs → lv_has ls 2 [(0, .ref (q 0)), (1, .int (zI x1))] → pX10_dynasty_0 σ x1 = some (r, τ) → W p l e rmX10_dynasty s m args below meth c H locs 0 0 Q (F0 m 0 ls []) := by
  obtain ⟨hx, hb, hr, hml, hown, hts, hlk, hK, hN⟩ := id C
  intro σ x1 H locs ls hw hl hf
  rw [pX10_dynasty_0] at hf
  refine lv_iload_n hx hb dX10_dynasty_0 rfl (lv_at hl 1 rfl) ?_
  refine lv_iconst (v := zI 0) hx hb dX10_dynasty_1 rfl ?_
  refine lv_iconst (v := zI 2) hx hb dX10_dynasty_2 rfl ?_
  obtain ⟨r3, h3, hf⟩ := bd_s hf
  replace hf := bt_s hf
  refine gSi (As := [.int (zI x1), .int (zI 0), .int (zI 2)]) (rest := []) C hw (tX10_isWithin h3) (va_cwS 3 hts gX10_dynasty_X10_isWithin rfl rfl rfl (by decide +kernel) ⟨Nat.le_of_ble_eq_true rfl, Nat.le_of_ble_eq_true rfl⟩) rfl hl.1 rfl (Nat.le_of_ble_eq_true rfl) dX10_dynasty_3 (fun H locs hw => ?_)
  obtain ⟨hg6, hf⟩ := gd_s hf
  refine zv_if_ne (tgt := 12) hx hb hg6 dX10_dynasty_6 (by decide) (fun (c6 : ¬ (r3 = 0)) => ?_) (fun (c6 : r3 = 0) => ?_)
  · rw [if_neg c6] at hf
    refine lv_aload_n hx hb dX10_dynasty_12 rfl (lv_at hl 0 rfl) ?_
    refine va_get (D := D) (ci := 10) (v := .ref (q 35)) (C := RX10) (T := TX10) (N := 13) hx hb hts (fun _ h => List.mem_cons_of_mem _ (List.mem_append_left _ (List.mem_append_left _ (List.mem_append_left _ (List.mem_append_right _ h))))) hown hK hw.1 0 rfl rfl 9 (by decide) (hts (.fieldLink RX10 73 "EggThrones" "succession" "LEggThrones$Succession;") (List.mem_of_getElem? (i := 2) rfl)) (fun _ h9 => h9) rfl dX10_dynasty_13 ?_
    refine lv_aload_n hx hb dX10_dynasty_16 rfl (lv_at hl 0 rfl) ?_
    refine va_get (D := D) (ci := 10) (v := .ref (q 15)) (C := RX10) (T := TX10) (N := 13) hx hb hts (fun _ h => List.mem_cons_of_mem _ (List.mem_append_left _ (List.mem_append_left _ (List.mem_append_left _ (List.mem_append_right _ h))))) hown hK hw.1 0 rfl rfl 3 (by decide) (hts (.fieldLink RX10 31 "EggThrones" "now" "LEggThrones$Morning;") (List.mem_of_getElem? (i := 3) rfl)) (fun _ h9 => h9) rfl dX10_dynasty_17 ?_
    obtain ⟨σ20, h20, hf⟩ := bd_s hf
    replace hf := bt_s hf
    refine gVv (As := [.ref (q 15)]) (rest := []) C hw (tX7_tryAll h20) (cwV 1 hts gX10_dynasty_X7_tryAll rfl rfl rfl (by decide +kernel) ⟨Nat.le_of_ble_eq_true rfl, Nat.le_of_ble_eq_true rfl⟩) 7 35 rfl rfl rfl hl.1 rfl (Nat.le_of_ble_eq_true rfl) dX10_dynasty_20 (fun H locs hw => ?_)
    refine lv_iload_n hx hb dX10_dynasty_23 rfl (lv_at hl 1 rfl) ?_
    obtain ⟨hg24, hf⟩ := gd_s hf
    by_cases c24_0 : x1 = 0
    · rw [if_pos c24_0] at hf
      refine lv_lookup (off := 28) (tgt := 52) hx hb dX10_dynasty_24 (by decide) (by rw [zI_toInt hg24, c24_0]; decide) (by decide) ?_
      refine lv_aload_n hx hb dX10_dynasty_52 rfl (lv_at hl 0 rfl) ?_
      refine va_get (D := D) (ci := 10) (v := .ref (q 35)) (C := RX10) (T := TX10) (N := 13) hx hb hts (fun _ h => List.mem_cons_of_mem _ (List.mem_append_left _ (List.mem_append_left _ (List.mem_append_left _ (List.mem_append_right _ h))))) hown hK hw.1 0 rfl rfl 9 (by decide) (hts (.fieldLink RX10 73 "EggThrones" "succession" "LEggThrones$Succession;") (List.mem_of_getElem? (i := 2) rfl)) (fun _ h9 => h9) rfl dX10_dynasty_53 ?_
      refine va_getN (D := D) (ci := 7) (v := .int (zI (σ20.1 28))) (C := RX7) (T := TX7) (N := 3) hx hb hts (fun _ h => List.mem_cons_of_mem _ (List.mem_append_left _ (List.mem_append_left _ (List.mem_append_right _ h)))) hown hK hw.1 35 rfl rfl 0 (by decide) (va_Nw.use rfl (hN (.fieldLinkNest "EggThrones" 278 "EggThrones$Succession" "kings" "I" "EggThrones") (by decide +kernel))) (fun _ h9 => h9) rfl dX10_dynasty_56 ?_
      cases hf
      exact hret H locs ls 59 dX10_dynasty_59 hw
    rw [if_neg c24_0] at hf
    by_cases c24_1 : x1 = 1
    · rw [if_pos c24_1] at hf
      refine lv_lookup (off := 36) (tgt := 60) hx hb dX10_dynasty_24 (by decide) (by rw [zI_toInt hg24, c24_1]; decide) (by decide) ?_
      refine lv_aload_n hx hb dX10_dynasty_60 rfl (lv_at hl 0 rfl) ?_
      refine va_get (D := D) (ci := 10) (v := .ref (q 35)) (C := RX10) (T := TX10) (N := 13) hx hb hts (fun _ h => List.mem_cons_of_mem _ (List.mem_append_left _ (List.mem_append_left _ (List.mem_append_left _ (List.mem_append_right _ h))))) hown hK hw.1 0 rfl rfl 9 (by decide) (hts (.fieldLink RX10 73 "EggThrones" "succession" "LEggThrones$Succession;") (List.mem_of_getElem? (i := 2) rfl)) (fun _ h9 => h9) rfl dX10_dynasty_61 ?_
      refine va_getN (D := D) (ci := 7) (v := .int (zI (σ20.1 29))) (C := RX7) (T := TX7) (N := 3) hx hb hts (fun _ h => List.mem_cons_of_mem _ (List.mem_append_left _ (List.mem_append_left _ (List.mem_append_right _ h)))) hown hK hw.1 35 rfl rfl 1 (by decide) (va_Nw.use rfl (hN (.fieldLinkNest "EggThrones" 281 "EggThrones$Succession" "minutes" "I" "EggThrones") (by decide +kernel))) (fun _ h9 => h9) rfl dX10_dynasty_64 ?_
      cases hf
      exact hret H locs ls 67 dX10_dynasty_67 hw
    rw [if_neg c24_1] at hf
    refine lv_lookup (off := 44) (tgt := 68) hx hb dX10_dynasty_24 (by decide) (by rw [zI_toInt hg24]; simp [Op.lookupswitch.offset, c24_0, Ne.symm c24_0, c24_1, Ne.symm c24_1]) (by decide) ?_
    refine lv_aload_n hx hb dX10_dynasty_68 rfl (lv_at hl 0 rfl) ?_
    refine va_get (D := D) (ci := 10) (v := .ref (q 35)) (C := RX10) (T := TX10) (N := 13) hx hb hts (fun _ h => List.mem_cons_of_mem _ (List.mem_append_left _ (List.mem_append_left _ (List.mem_append_left _ (List.mem_append_right _ h))))) hown hK hw.1 0 rfl rfl 9 (by decide) (hts (.fieldLink RX10 73 "EggThrones" "succession" "LEggThrones$Succession;") (List.mem_of_getElem? (i := 2) rfl)) (fun _ h9 => h9) rfl dX10_dynasty_69 ?_
    refine va_getN (D := D) (ci := 7) (v := .int (zI (σ20.1 30))) (C := RX7) (T := TX7) (N := 3) hx hb hts (fun _ h => List.mem_cons_of_mem _ (List.mem_append_left _ (List.mem_append_left _ (List.mem_append_right _ h)))) hown hK hw.1 35 rfl rfl 2 (by decide) (va_Nw.use rfl (hN (.fieldLinkNest "EggThrones" 282 "EggThrones$Succession" "set" "I" "EggThrones") (by decide +kernel))) (fun _ h9 => h9) rfl dX10_dynasty_72 ?_
    cases hf
    exact hret H locs ls 75 dX10_dynasty_75 hw
  · rw [if_pos c6] at hf
    refine zv_ldc hx hb (-1000000002) (by decide +kernel) hown (hts (.constant RX10 95 (-1000000002)) (List.mem_of_getElem? (i := 1) rfl)) dX10_dynasty_9 ?_
    cases hf
    exact hret H locs ls 11 dX10_dynasty_11 hw
set_option maxHeartbeats 4000000 in
set_option maxRecDepth 100000 in
theorem tX10_dynasty {l : Launch} {D : va_G} {A : Nat → Prop} {cI cZ : ClassId} {q : Nat → Nat} {σ : St} {x1 : Int} {r : Int} {τ : St} (hf : pX10_dynasty σ x1 = some (r, τ)) : Met l yX10_dynasty wsX10_dynasty rmX10_dynasty (va_Pc [.ref (q 0), .int (zI x1)] (CX D (TY cI cZ) A (wE q cI cZ σ))) (QI D (TY cI cZ) A (wE q cI cZ τ) (zI r)) 0 0 A := by
  refine opn (cc := cX10_dynasty) (maxL := 2) (ret := (some .int)) (by decide) rfl (Nat.le_of_ble_eq_true rfl) (fun p e s m below meth c C ls hw hl => ?_)
  have hl : lv_has ls 2 [(0, .ref (q 0)), (1, .int (zI x1))] := hl
  rw [pX10_dynasty] at hf
  exact wX10_dynasty_0 C (rtI C) σ x1 _ _ ls hw (lv_sub hl [0, 1] rfl) hf
abbrev rmX11_bits : Room := { frames := 0, cells := 0, slots := 0, locals := 0 }
set_option maxHeartbeats 4000000 in
set_option maxRecDepth 100000 in
theorem wX11_bits_4 {p : Program} {l : Launch} {e : Env} {s : State} {m : MethodId} {args : Array Value} {below : List Frame} {meth : Method} {c : Code} {D : va_G} {A : Nat → Prop} {w : va_W} {cI cZ : ClassId} {Q : State → Prop} {r : Int} (C : Cx p s m args meth c D (TY cI cZ) cX11_bits (some .int) 3 wsX11_bits RX11) (hret : RtI p l e rmX11_bits s m args below meth c D A cX11_bits Q (w) (zI r)) :
    ∀ (n : Nat) (x0 : Int) (x1 : Int) (x2 : Int) (H : Heap) (locs : List Loc) (ls : Array Slot), Wd D A s (w) H locs → lv_has ls 3 [(0, .int (zI x0)), (1, .int (zI x1)), (2, .int (zI x2))] → pX11_bits_4 n x0 x1 x2 = some r → W p l e rmX11_bits s m args below meth c H locs 0 0 Q (F0 m 4 ls []) := by
  obtain ⟨hx, hb, hr, hml, hown, hts, hlk, hK, hN⟩ := id C
  intro n
  induction n with
  | zero =>
    intro x0 x1 x2 H locs ls hw hl hf
    exact absurd (show (none : Option (Int)) = some r from hf) (by simp)
  | succ n ih =>
    intro x0 x1 x2 H locs ls hw hl hf
    rw [pX11_bits_4] at hf
    refine lv_iload_n hx hb dX11_bits_4 rfl (lv_at hl 2 rfl) ?_
    refine lv_bipush (v := zI 7) hx hb dX11_bits_5 (by decide +kernel) ?_
    obtain ⟨hg7, hf⟩ := gd_s hf
    refine zv_icmp_ge (tgt := 24) hx hb ⟨hg7, by decide⟩ dX11_bits_7 (by decide) (fun (c7 : 7 ≤ x2) => ?_) (fun (c7 : ¬ (7 ≤ x2)) => ?_)
    · rw [if_pos c7] at hf
      refine lv_iload_n hx hb dX11_bits_24 rfl (lv_at hl 1 rfl) ?_
      cases hf
      exact hret H locs ls 25 dX11_bits_25 hw
    · rw [if_neg c7] at hf
      refine lv_iload_n hx hb dX11_bits_10 rfl (lv_at hl 1 rfl) ?_
      refine lv_iload_n hx hb dX11_bits_11 rfl (lv_at hl 0 rfl) ?_
      refine lv_iload_n hx hb dX11_bits_12 rfl (lv_at hl 2 rfl) ?_
      refine zv_ishr hx hb dX11_bits_13 ?_
      refine lv_iconst (v := zI 1) hx hb dX11_bits_14 rfl ?_
      refine zv_iand hx hb dX11_bits_15 ?_
      refine zv_iadd hx hb dX11_bits_16 ?_
      refine lv_istore_n (lv' := [(1, .int (zI (x1 + (zAnd (zShr x0 x2) 1)))), (0, .int (zI x0)), (2, .int (zI x2))]) hx hb dX11_bits_17 rfl hl (by decide) rfl (fun ls hl => ?_)
      refine lv_iinc (v := zI (x2 + 1)) (lv' := [(2, .int (zI (x2 + 1))), (1, .int (zI (x1 + (zAnd (zShr x0 x2) 1)))), (0, .int (zI x0))]) hx hb dX11_bits_18 hl (k := 2) rfl (zI_add _ _) (by decide) rfl (fun ls hl => ?_)
      refine lv_goto (tgt := 4) hx hb dX11_bits_21 (by decide) ?_
      exact ih x0 (x1 + (zAnd (zShr x0 x2) 1)) (x2 + 1) H locs ls hw (lv_sub hl [2, 1, 0] rfl) hf
set_option maxHeartbeats 4000000 in
set_option maxRecDepth 100000 in
theorem wX11_bits_0 {p : Program} {l : Launch} {e : Env} {s : State} {m : MethodId} {args : Array Value} {below : List Frame} {meth : Method} {c : Code} {D : va_G} {A : Nat → Prop} {w : va_W} {cI cZ : ClassId} {Q : State → Prop} {r : Int} (C : Cx p s m args meth c D (TY cI cZ) cX11_bits (some .int) 3 wsX11_bits RX11) (hret : RtI p l e rmX11_bits s m args below meth c D A cX11_bits Q (w) (zI r)) :
    ∀ (x0 : Int) (H : Heap) (locs : List Loc) (ls : Array Slot), Wd D A s (w) H locs → lv_has ls 3 [(0, .int (zI x0))] → pX11_bits_0 x0 = some r → W p l e rmX11_bits s m args below meth c H locs 0 0 Q (F0 m 0 ls []) := by
  obtain ⟨hx, hb, hr, hml, hown, hts, hlk, hK, hN⟩ := id C
  intro x0 H locs ls hw hl hf
  rw [pX11_bits_0] at hf
  refine lv_iconst (v := zI 0) hx hb dX11_bits_0 rfl ?_
  refine lv_istore_n (lv' := [(1, .int (zI 0)), (0, .int (zI x0))]) hx hb dX11_bits_1 rfl hl (by decide) rfl (fun ls hl => ?_)
  refine lv_iconst (v := zI 0) hx hb dX11_bits_2 rfl ?_
  refine lv_istore_n (lv' := [(2, .int (zI 0)), (1, .int (zI 0)), (0, .int (zI x0))]) hx hb dX11_bits_3 rfl hl (by decide) rfl (fun ls hl => ?_)
  exact wX11_bits_4 C hret FU x0 0 0 H locs ls hw (lv_sub hl [2, 1, 0] rfl) hf
set_option maxHeartbeats 4000000 in
set_option maxRecDepth 100000 in
theorem tX11_bits {l : Launch} {D : va_G} {A : Nat → Prop} {cI cZ : ClassId} {w : va_W} {x0 : Int} {r : Int} (hf : pX11_bits x0 = some r) : Met l yX11_bits wsX11_bits rmX11_bits (va_Pc [.int (zI x0)] (CX D (TY cI cZ) A (w))) (QI D (TY cI cZ) A (w) (zI r)) 0 0 A := by
  refine opn (cc := cX11_bits) (maxL := 3) (ret := (some .int)) (by decide) rfl (Nat.le_of_ble_eq_true rfl) (fun p e s m below meth c C ls hw hl => ?_)
  have hl : lv_has ls 3 [(0, .int (zI x0))] := hl
  rw [pX11_bits] at hf
  exact wX11_bits_0 C (rtI C) x0 _ _ ls hw (lv_sub hl [0] rfl) hf
abbrev rmX11_minutesOf : Room := { frames := 3, cells := 0, slots := 0, locals := 66 }
set_option maxHeartbeats 4000000 in
set_option maxRecDepth 100000 in
theorem wX11_minutesOf_30 {p : Program} {l : Launch} {e : Env} {s : State} {m : MethodId} {args : Array Value} {below : List Frame} {meth : Method} {c : Code} {D : va_G} {A : Nat → Prop} {q : Nat → Nat} {cI cZ : ClassId} {Q : State → Prop} {σ : St} {r : Int} (C : Cx p s m args meth c D (TY cI cZ) cX11_minutesOf (some .int) 4 wsX11_minutesOf RX11) (hret : RtI p l e rmX11_minutesOf s m args below meth c D A cX11_minutesOf Q (wM q cI cZ σ) (zI r)) (k4 : Int → Int → Int → Option (Int)) (hk4 : ∀ (x1 : Int) (x2 : Int) (x3 : Int) (H : Heap) (locs : List Loc) (ls : Array Slot), Wd D A s (wM q cI cZ σ) H locs → lv_has ls 4 [(0, .ref (q 0)), (1, .int (zI x1)), (2, .int (zI x2)), (3, .int (zI x3))] → k4 x1 x2 x3 = some r → W p l e rmX11_minutesOf s m args below meth c H locs 0 0 Q (F0 m 4 ls [])) :
    ∀ (x1 : Int) (x3 : Int) (t0 : Int) (t1 : Int) (H : Heap) (locs : List Loc) (ls : Array Slot), Wd D A s (wM q cI cZ σ) H locs → lv_has ls 4 [(0, .ref (q 0)), (1, .int (zI x1)), (3, .int (zI x3))] → pX11_minutesOf_30 k4 σ x1 x3 t0 t1 = some r → W p l e rmX11_minutesOf s m args below meth c H locs 0 0 Q (F0 m 30 ls [.int (zI t1), .int (zI t0)]) := by
  obtain ⟨hx, hb, hr, hml, hown, hts, hlk, hK, hN⟩ := id C
  intro x1 x3 t0 t1 H locs ls hw hl hf
  rw [pX11_minutesOf_30] at hf
  refine zv_iadd hx hb dX11_minutesOf_30 ?_
  refine lv_istore_n (lv' := [(2, .int (zI (t0 + t1))), (0, .ref (q 0)), (1, .int (zI x1)), (3, .int (zI x3))]) hx hb dX11_minutesOf_31 rfl hl (by decide) rfl (fun ls hl => ?_)
  refine lv_iinc (v := zI (x3 + 1)) (lv' := [(3, .int (zI (x3 + 1))), (2, .int (zI (t0 + t1))), (0, .ref (q 0)), (1, .int (zI x1))]) hx hb dX11_minutesOf_32 hl (k := 3) rfl (zI_add _ _) (by decide) rfl (fun ls hl => ?_)
  refine lv_goto (tgt := 4) hx hb dX11_minutesOf_35 (by decide) ?_
  exact hk4 x1 (t0 + t1) (x3 + 1) H locs ls hw (lv_sub hl [2, 3, 1, 0] rfl) hf
set_option maxHeartbeats 4000000 in
set_option maxRecDepth 100000 in
theorem wX11_minutesOf_4 {p : Program} {l : Launch} {e : Env} {s : State} {m : MethodId} {args : Array Value} {below : List Frame} {meth : Method} {c : Code} {D : va_G} {A : Nat → Prop} {q : Nat → Nat} {cI cZ : ClassId} {Q : State → Prop} {σ : St} {r : Int} (C : Cx p s m args meth c D (TY cI cZ) cX11_minutesOf (some .int) 4 wsX11_minutesOf RX11) (hret : RtI p l e rmX11_minutesOf s m args below meth c D A cX11_minutesOf Q (wM q cI cZ σ) (zI r)) :
    ∀ (n : Nat) (x1 : Int) (x2 : Int) (x3 : Int) (H : Heap) (locs : List Loc) (ls : Array Slot), Wd D A s (wM q cI cZ σ) H locs → lv_has ls 4 [(0, .ref (q 0)), (1, .int (zI x1)), (2, .int (zI x2)), (3, .int (zI x3))] → pX11_minutesOf_4 σ n x1 x2 x3 = some r → W p l e rmX11_minutesOf s m args below meth c H locs 0 0 Q (F0 m 4 ls []) := by
  obtain ⟨hx, hb, hr, hml, hown, hts, hlk, hK, hN⟩ := id C
  intro n
  induction n with
  | zero =>
    intro x1 x2 x3 H locs ls hw hl hf
    exact absurd (show (none : Option (Int)) = some r from hf) (by simp)
  | succ n ih =>
    intro x1 x2 x3 H locs ls hw hl hf
    rw [pX11_minutesOf_4] at hf
    refine lv_iload_n hx hb dX11_minutesOf_4 rfl (lv_at hl 3 rfl) ?_
    refine lv_aload_n hx hb dX11_minutesOf_5 rfl (lv_at hl 0 rfl) ?_
    refine va_get (D := D) (ci := 11) (v := .int (zI (σ.1 2))) (C := RX11) (T := TX11) (N := 40) hx hb hts (fun _ h => List.mem_cons_of_mem _ (List.mem_append_right _ h)) hown hK hw.1 0 rfl rfl 2 (by decide) (hts (.fieldLink RX11 93 "EggThronesModel" "eggs" "I") (List.mem_of_getElem? (i := 1) rfl)) (fun _ h9 => h9) rfl dX11_minutesOf_6 ?_
    obtain ⟨hg9, hf⟩ := gd_s hf
    refine zv_icmp_ge (tgt := 38) hx hb hg9 dX11_minutesOf_9 (by decide) (fun (c9 : (σ.1 2) ≤ x3) => ?_) (fun (c9 : ¬ ((σ.1 2) ≤ x3)) => ?_)
    · rw [if_pos c9] at hf
      refine lv_iload_n hx hb dX11_minutesOf_38 rfl (lv_at hl 2 rfl) ?_
      cases hf
      exact hret H locs ls 39 dX11_minutesOf_39 hw
    · rw [if_neg c9] at hf
      refine lv_iload_n hx hb dX11_minutesOf_12 rfl (lv_at hl 2 rfl) ?_
      refine lv_iload_n hx hb dX11_minutesOf_13 rfl (lv_at hl 1 rfl) ?_
      refine lv_iload_n hx hb dX11_minutesOf_14 rfl (lv_at hl 3 rfl) ?_
      obtain ⟨r15, h15, hf⟩ := bd_s hf
      replace hf := bt_s hf
      refine gSi (As := [.int (zI x1), .int (zI x3)]) (rest := [.int (zI x2)]) C hw (tX11_has h15) (va_cwS 2 hts gX11_minutesOf_X11_has rfl rfl rfl (by decide +kernel) ⟨Nat.le_of_ble_eq_true rfl, Nat.le_of_ble_eq_true rfl⟩) rfl hl.1 rfl (Nat.le_of_ble_eq_true rfl) dX11_minutesOf_15 (fun H locs hw => ?_)
      obtain ⟨hg18, hf⟩ := gd_s hf
      refine zv_if_eq (tgt := 29) hx hb hg18 dX11_minutesOf_18 (by decide) (fun (c18 : r15 = 0) => ?_) (fun (c18 : ¬ (r15 = 0)) => ?_)
      · rw [if_pos c18] at hf
        refine lv_iconst (v := zI 0) hx hb dX11_minutesOf_29 rfl ?_
        exact wX11_minutesOf_30 C hret _ ih x1 x3 x2 0 H locs ls hw (lv_sub hl [0, 1, 3] rfl) hf
      · rw [if_neg c18] at hf
        refine lv_aload_n hx hb dX11_minutesOf_21 rfl (lv_at hl 0 rfl) ?_
        refine lv_iload_n hx hb dX11_minutesOf_22 rfl (lv_at hl 3 rfl) ?_
        obtain ⟨r23, h23, hf⟩ := bd_s hf
        replace hf := bt_s hf
        refine gVi (As := [.int (zI x3)]) (rest := [.int (zI x2)]) C hw (tX11_reign h23) (cwV 1 hts gX11_minutesOf_X11_reign rfl rfl rfl (by decide +kernel) ⟨Nat.le_of_ble_eq_true rfl, Nat.le_of_ble_eq_true rfl⟩) 11 0 rfl rfl rfl hl.1 rfl (Nat.le_of_ble_eq_true rfl) dX11_minutesOf_23 (fun H locs hw => ?_)
        refine lv_goto (tgt := 30) hx hb dX11_minutesOf_26 (by decide) ?_
        exact wX11_minutesOf_30 C hret _ ih x1 x3 x2 r23 H locs ls hw (lv_sub hl [0, 1, 3] rfl) hf
set_option maxHeartbeats 4000000 in
set_option maxRecDepth 100000 in
theorem wX11_minutesOf_0 {p : Program} {l : Launch} {e : Env} {s : State} {m : MethodId} {args : Array Value} {below : List Frame} {meth : Method} {c : Code} {D : va_G} {A : Nat → Prop} {q : Nat → Nat} {cI cZ : ClassId} {Q : State → Prop} {σ : St} {r : Int} (C : Cx p s m args meth c D (TY cI cZ) cX11_minutesOf (some .int) 4 wsX11_minutesOf RX11) (hret : RtI p l e rmX11_minutesOf s m args below meth c D A cX11_minutesOf Q (wM q cI cZ σ) (zI r)) :
    ∀ (x1 : Int) (H : Heap) (locs : List Loc) (ls : Array Slot), Wd D A s (wM q cI cZ σ) H locs → lv_has ls 4 [(0, .ref (q 0)), (1, .int (zI x1))] → pX11_minutesOf_0 σ x1 = some r → W p l e rmX11_minutesOf s m args below meth c H locs 0 0 Q (F0 m 0 ls []) := by
  obtain ⟨hx, hb, hr, hml, hown, hts, hlk, hK, hN⟩ := id C
  intro x1 H locs ls hw hl hf
  rw [pX11_minutesOf_0] at hf
  refine lv_iconst (v := zI 0) hx hb dX11_minutesOf_0 rfl ?_
  refine lv_istore_n (lv' := [(2, .int (zI 0)), (0, .ref (q 0)), (1, .int (zI x1))]) hx hb dX11_minutesOf_1 rfl hl (by decide) rfl (fun ls hl => ?_)
  refine lv_iconst (v := zI 0) hx hb dX11_minutesOf_2 rfl ?_
  refine lv_istore_n (lv' := [(3, .int (zI 0)), (2, .int (zI 0)), (0, .ref (q 0)), (1, .int (zI x1))]) hx hb dX11_minutesOf_3 rfl hl (by decide) rfl (fun ls hl => ?_)
  exact wX11_minutesOf_4 C hret FU x1 0 0 H locs ls hw (lv_sub hl [2, 3, 1, 0] rfl) hf
set_option maxHeartbeats 4000000 in
set_option maxRecDepth 100000 in
theorem tX11_minutesOf {l : Launch} {D : va_G} {A : Nat → Prop} {cI cZ : ClassId} {q : Nat → Nat} {σ : St} {x1 : Int} {r : Int} (hf : pX11_minutesOf σ x1 = some r) : Met l yX11_minutesOf wsX11_minutesOf rmX11_minutesOf (va_Pc [.ref (q 0), .int (zI x1)] (CX D (TY cI cZ) A (wM q cI cZ σ))) (QI D (TY cI cZ) A (wM q cI cZ σ) (zI r)) 0 0 A := by
  refine opn (cc := cX11_minutesOf) (maxL := 4) (ret := (some .int)) (by decide) rfl (Nat.le_of_ble_eq_true rfl) (fun p e s m below meth c C ls hw hl => ?_)
  have hl : lv_has ls 4 [(0, .ref (q 0)), (1, .int (zI x1))] := hl
  rw [pX11_minutesOf] at hf
  exact wX11_minutesOf_0 C (rtI C) x1 _ _ ls hw (lv_sub hl [0, 1] rfl) hf
abbrev rmX11_dynastySet : Room := { frames := 4, cells := 0, slots := 0, locals := 89 }
set_option maxHeartbeats 4000000 in
set_option maxRecDepth 100000 in
theorem wX11_dynastySet_121 {p : Program} {l : Launch} {e : Env} {s : State} {m : MethodId} {args : Array Value} {below : List Frame} {meth : Method} {c : Code} {D : va_G} {A : Nat → Prop} {q : Nat → Nat} {cI cZ : ClassId} {Q : State → Prop} {σ : St} {r : Int} (C : Cx p s m args meth c D (TY cI cZ) cX11_dynastySet (some .int) 7 wsX11_dynastySet RX11) (hret : RtI p l e rmX11_dynastySet s m args below meth c D A cX11_dynastySet Q (wM q cI cZ σ) (zI r)) (k10 : Int → Int → Int → Option (Int)) (hk10 : ∀ (x1 : Int) (x2 : Int) (x3 : Int) (H : Heap) (locs : List Loc) (ls : Array Slot), Wd D A s (wM q cI cZ σ) H locs → lv_has ls 7 [(0, .ref (q 0)), (1, .int (zI x1)), (2, .int (zI x2)), (3, .int (zI x3))] → k10 x1 x2 x3 = some r → W p l e rmX11_dynastySet s m args below meth c H locs 0 0 Q (F0 m 10 ls [])) :
    ∀ (x1 : Int) (x3 : Int) (t0 : Int) (H : Heap) (locs : List Loc) (ls : Array Slot), Wd D A s (wM q cI cZ σ) H locs → lv_has ls 7 [(0, .ref (q 0)), (1, .int (zI x1)), (3, .int (zI x3))] → pX11_dynastySet_121 k10 σ x1 x3 t0 = some r → W p l e rmX11_dynastySet s m args below meth c H locs 0 0 Q (F0 m 121 ls [.int (zI t0)]) := by
  obtain ⟨hx, hb, hr, hml, hown, hts, hlk, hK, hN⟩ := id C
  intro x1 x3 t0 H locs ls hw hl hf
  rw [pX11_dynastySet_121] at hf
  refine lv_istore_n (lv' := [(2, .int (zI t0)), (0, .ref (q 0)), (1, .int (zI x1)), (3, .int (zI x3))]) hx hb dX11_dynastySet_121 rfl hl (by decide) rfl (fun ls hl => ?_)
  refine lv_iinc (v := zI (x3 + 1)) (lv' := [(3, .int (zI (x3 + 1))), (2, .int (zI t0)), (0, .ref (q 0)), (1, .int (zI x1))]) hx hb dX11_dynastySet_122 hl (k := 3) rfl (zI_add _ _) (by decide) rfl (fun ls hl => ?_)
  refine lv_goto (tgt := 10) hx hb dX11_dynastySet_125 (by decide) ?_
  exact hk10 x1 t0 (x3 + 1) H locs ls hw (lv_sub hl [2, 3, 1, 0] rfl) hf
set_option maxHeartbeats 4000000 in
set_option maxRecDepth 100000 in
theorem wX11_dynastySet_116 {p : Program} {l : Launch} {e : Env} {s : State} {m : MethodId} {args : Array Value} {below : List Frame} {meth : Method} {c : Code} {D : va_G} {A : Nat → Prop} {q : Nat → Nat} {cI cZ : ClassId} {Q : State → Prop} {σ : St} {r : Int} (C : Cx p s m args meth c D (TY cI cZ) cX11_dynastySet (some .int) 7 wsX11_dynastySet RX11) (hret : RtI p l e rmX11_dynastySet s m args below meth c D A cX11_dynastySet Q (wM q cI cZ σ) (zI r)) (k10 : Int → Int → Int → Option (Int)) (hk10 : ∀ (x1 : Int) (x2 : Int) (x3 : Int) (H : Heap) (locs : List Loc) (ls : Array Slot), Wd D A s (wM q cI cZ σ) H locs → lv_has ls 7 [(0, .ref (q 0)), (1, .int (zI x1)), (2, .int (zI x2)), (3, .int (zI x3))] → k10 x1 x2 x3 = some r → W p l e rmX11_dynastySet s m args below meth c H locs 0 0 Q (F0 m 10 ls [])) :
    ∀ (x1 : Int) (x3 : Int) (H : Heap) (locs : List Loc) (ls : Array Slot), Wd D A s (wM q cI cZ σ) H locs → lv_has ls 7 [(0, .ref (q 0)), (1, .int (zI x1)), (3, .int (zI x3))] → pX11_dynastySet_116 k10 σ x1 x3 = some r → W p l e rmX11_dynastySet s m args below meth c H locs 0 0 Q (F0 m 116 ls []) := by
  obtain ⟨hx, hb, hr, hml, hown, hts, hlk, hK, hN⟩ := id C
  intro x1 x3 H locs ls hw hl hf
  rw [pX11_dynastySet_116] at hf
  refine lv_iload_n hx hb dX11_dynastySet_116 rfl (lv_at hl 2 rfl) ?_
  refine lv_goto (tgt := 121) hx hb dX11_dynastySet_117 (by decide) ?_
  exact wX11_dynastySet_121 C hret _ hk10 x1 x3 x3 H locs ls hw (lv_sub hl [0, 1, 2] rfl) hf
set_option maxHeartbeats 4000000 in
set_option maxRecDepth 100000 in
theorem wX11_dynastySet_120 {p : Program} {l : Launch} {e : Env} {s : State} {m : MethodId} {args : Array Value} {below : List Frame} {meth : Method} {c : Code} {D : va_G} {A : Nat → Prop} {q : Nat → Nat} {cI cZ : ClassId} {Q : State → Prop} {σ : St} {r : Int} (C : Cx p s m args meth c D (TY cI cZ) cX11_dynastySet (some .int) 7 wsX11_dynastySet RX11) (hret : RtI p l e rmX11_dynastySet s m args below meth c D A cX11_dynastySet Q (wM q cI cZ σ) (zI r)) (k10 : Int → Int → Int → Option (Int)) (hk10 : ∀ (x1 : Int) (x2 : Int) (x3 : Int) (H : Heap) (locs : List Loc) (ls : Array Slot), Wd D A s (wM q cI cZ σ) H locs → lv_has ls 7 [(0, .ref (q 0)), (1, .int (zI x1)), (2, .int (zI x2)), (3, .int (zI x3))] → k10 x1 x2 x3 = some r → W p l e rmX11_dynastySet s m args below meth c H locs 0 0 Q (F0 m 10 ls [])) :
    ∀ (x1 : Int) (x2 : Int) (x3 : Int) (H : Heap) (locs : List Loc) (ls : Array Slot), Wd D A s (wM q cI cZ σ) H locs → lv_has ls 7 [(0, .ref (q 0)), (1, .int (zI x1)), (2, .int (zI x2)), (3, .int (zI x3))] → pX11_dynastySet_120 k10 σ x1 x2 x3 = some r → W p l e rmX11_dynastySet s m args below meth c H locs 0 0 Q (F0 m 120 ls []) := by
  obtain ⟨hx, hb, hr, hml, hown, hts, hlk, hK, hN⟩ := id C
  intro x1 x2 x3 H locs ls hw hl hf
  rw [pX11_dynastySet_120] at hf
  refine lv_iload_n hx hb dX11_dynastySet_120 rfl (lv_at hl 2 rfl) ?_
  exact wX11_dynastySet_121 C hret _ hk10 x1 x3 x2 H locs ls hw (lv_sub hl [0, 1, 3] rfl) hf
set_option maxHeartbeats 4000000 in
set_option maxRecDepth 100000 in
theorem wX11_dynastySet_99 {p : Program} {l : Launch} {e : Env} {s : State} {m : MethodId} {args : Array Value} {below : List Frame} {meth : Method} {c : Code} {D : va_G} {A : Nat → Prop} {q : Nat → Nat} {cI cZ : ClassId} {Q : State → Prop} {σ : St} {r : Int} (C : Cx p s m args meth c D (TY cI cZ) cX11_dynastySet (some .int) 7 wsX11_dynastySet RX11) (hret : RtI p l e rmX11_dynastySet s m args below meth c D A cX11_dynastySet Q (wM q cI cZ σ) (zI r)) (k10 : Int → Int → Int → Option (Int)) (hk10 : ∀ (x1 : Int) (x2 : Int) (x3 : Int) (H : Heap) (locs : List Loc) (ls : Array Slot), Wd D A s (wM q cI cZ σ) H locs → lv_has ls 7 [(0, .ref (q 0)), (1, .int (zI x1)), (2, .int (zI x2)), (3, .int (zI x3))] → k10 x1 x2 x3 = some r → W p l e rmX11_dynastySet s m args below meth c H locs 0 0 Q (F0 m 10 ls [])) :
    ∀ (x1 : Int) (x2 : Int) (x3 : Int) (x4 : Int) (x5 : Int) (t0 : Int) (H : Heap) (locs : List Loc) (ls : Array Slot), Wd D A s (wM q cI cZ σ) H locs → lv_has ls 7 [(0, .ref (q 0)), (1, .int (zI x1)), (2, .int (zI x2)), (3, .int (zI x3)), (4, .int (zI x4)), (5, .int (zI x5))] → pX11_dynastySet_99 k10 σ x1 x2 x3 x4 x5 t0 = some r → W p l e rmX11_dynastySet s m args below meth c H locs 0 0 Q (F0 m 99 ls [.int (zI t0)]) := by
  obtain ⟨hx, hb, hr, hml, hown, hts, hlk, hK, hN⟩ := id C
  intro x1 x2 x3 x4 x5 t0 H locs ls hw hl hf
  rw [pX11_dynastySet_99] at hf
  refine lv_istore (lv' := [(6, .int (zI t0)), (0, .ref (q 0)), (1, .int (zI x1)), (2, .int (zI x2)), (3, .int (zI x3)), (4, .int (zI x4)), (5, .int (zI x5))]) hx hb dX11_dynastySet_99 hl (by decide) rfl (fun ls hl => ?_)
  refine lv_iload hx hb dX11_dynastySet_101 (lv_at hl 5 rfl) ?_
  obtain ⟨hg103, hf⟩ := gd_s hf
  refine zv_if_eq (tgt := 120) hx hb hg103 dX11_dynastySet_103 (by decide) (fun (c103 : x4 = 0) => ?_) (fun (c103 : ¬ (x4 = 0)) => ?_)
  · rw [if_pos c103] at hf
    exact wX11_dynastySet_120 C hret _ hk10 x1 x2 x3 H locs ls hw (lv_sub hl [1, 2, 3, 4] rfl) hf
  · rw [if_neg c103] at hf
    refine lv_iload hx hb dX11_dynastySet_106 (lv_at hl 6 rfl) ?_
    obtain ⟨hg108, hf⟩ := gd_s hf
    refine zv_if_ne (tgt := 116) hx hb hg108 dX11_dynastySet_108 (by decide) (fun (c108 : ¬ (x5 = 0)) => ?_) (fun (c108 : x5 = 0) => ?_)
    · rw [if_neg c108] at hf
      exact wX11_dynastySet_116 C hret _ hk10 x1 x3 H locs ls hw (lv_sub hl [1, 2, 4] rfl) hf
    · rw [if_pos c108] at hf
      refine lv_iload hx hb dX11_dynastySet_111 (lv_at hl 0 rfl) ?_
      obtain ⟨hg113, hf⟩ := gd_s hf
      refine zv_if_eq (tgt := 120) hx hb hg113 dX11_dynastySet_113 (by decide) (fun (c113 : t0 = 0) => ?_) (fun (c113 : ¬ (t0 = 0)) => ?_)
      · rw [if_pos c113] at hf
        exact wX11_dynastySet_120 C hret _ hk10 x1 x2 x3 H locs ls hw (lv_sub hl [1, 2, 3, 4] rfl) hf
      · rw [if_neg c113] at hf
        exact wX11_dynastySet_116 C hret _ hk10 x1 x3 H locs ls hw (lv_sub hl [1, 2, 4] rfl) hf
set_option maxHeartbeats 4000000 in
set_option maxRecDepth 100000 in
theorem wX11_dynastySet_98 {p : Program} {l : Launch} {e : Env} {s : State} {m : MethodId} {args : Array Value} {below : List Frame} {meth : Method} {c : Code} {D : va_G} {A : Nat → Prop} {q : Nat → Nat} {cI cZ : ClassId} {Q : State → Prop} {σ : St} {r : Int} (C : Cx p s m args meth c D (TY cI cZ) cX11_dynastySet (some .int) 7 wsX11_dynastySet RX11) (hret : RtI p l e rmX11_dynastySet s m args below meth c D A cX11_dynastySet Q (wM q cI cZ σ) (zI r)) (k10 : Int → Int → Int → Option (Int)) (hk10 : ∀ (x1 : Int) (x2 : Int) (x3 : Int) (H : Heap) (locs : List Loc) (ls : Array Slot), Wd D A s (wM q cI cZ σ) H locs → lv_has ls 7 [(0, .ref (q 0)), (1, .int (zI x1)), (2, .int (zI x2)), (3, .int (zI x3))] → k10 x1 x2 x3 = some r → W p l e rmX11_dynastySet s m args below meth c H locs 0 0 Q (F0 m 10 ls [])) :
    ∀ (x1 : Int) (x2 : Int) (x3 : Int) (x4 : Int) (x5 : Int) (H : Heap) (locs : List Loc) (ls : Array Slot), Wd D A s (wM q cI cZ σ) H locs → lv_has ls 7 [(0, .ref (q 0)), (1, .int (zI x1)), (2, .int (zI x2)), (3, .int (zI x3)), (4, .int (zI x4)), (5, .int (zI x5))] → pX11_dynastySet_98 k10 σ x1 x2 x3 x4 x5 = some r → W p l e rmX11_dynastySet s m args below meth c H locs 0 0 Q (F0 m 98 ls []) := by
  obtain ⟨hx, hb, hr, hml, hown, hts, hlk, hK, hN⟩ := id C
  intro x1 x2 x3 x4 x5 H locs ls hw hl hf
  rw [pX11_dynastySet_98] at hf
  refine lv_iconst (v := zI 0) hx hb dX11_dynastySet_98 rfl ?_
  exact wX11_dynastySet_99 C hret _ hk10 x1 x2 x3 x4 x5 0 H locs ls hw (lv_sub hl [0, 1, 2, 3, 4, 5] rfl) hf
set_option maxHeartbeats 4000000 in
set_option maxRecDepth 100000 in
theorem wX11_dynastySet_68 {p : Program} {l : Launch} {e : Env} {s : State} {m : MethodId} {args : Array Value} {below : List Frame} {meth : Method} {c : Code} {D : va_G} {A : Nat → Prop} {q : Nat → Nat} {cI cZ : ClassId} {Q : State → Prop} {σ : St} {r : Int} (C : Cx p s m args meth c D (TY cI cZ) cX11_dynastySet (some .int) 7 wsX11_dynastySet RX11) (hret : RtI p l e rmX11_dynastySet s m args below meth c D A cX11_dynastySet Q (wM q cI cZ σ) (zI r)) (k10 : Int → Int → Int → Option (Int)) (hk10 : ∀ (x1 : Int) (x2 : Int) (x3 : Int) (H : Heap) (locs : List Loc) (ls : Array Slot), Wd D A s (wM q cI cZ σ) H locs → lv_has ls 7 [(0, .ref (q 0)), (1, .int (zI x1)), (2, .int (zI x2)), (3, .int (zI x3))] → k10 x1 x2 x3 = some r → W p l e rmX11_dynastySet s m args below meth c H locs 0 0 Q (F0 m 10 ls [])) :
    ∀ (x1 : Int) (x2 : Int) (x3 : Int) (x4 : Int) (t0 : Int) (H : Heap) (locs : List Loc) (ls : Array Slot), Wd D A s (wM q cI cZ σ) H locs → lv_has ls 7 [(0, .ref (q 0)), (1, .int (zI x1)), (2, .int (zI x2)), (3, .int (zI x3)), (4, .int (zI x4))] → pX11_dynastySet_68 k10 σ x1 x2 x3 x4 t0 = some r → W p l e rmX11_dynastySet s m args below meth c H locs 0 0 Q (F0 m 68 ls [.int (zI t0)]) := by
  obtain ⟨hx, hb, hr, hml, hown, hts, hlk, hK, hN⟩ := id C
  intro x1 x2 x3 x4 t0 H locs ls hw hl hf
  rw [pX11_dynastySet_68] at hf
  refine lv_istore (lv' := [(5, .int (zI t0)), (0, .ref (q 0)), (1, .int (zI x1)), (2, .int (zI x2)), (3, .int (zI x3)), (4, .int (zI x4))]) hx hb dX11_dynastySet_68 hl (by decide) rfl (fun ls hl => ?_)
  refine lv_iload_n hx hb dX11_dynastySet_70 rfl (lv_at hl 4 rfl) ?_
  obtain ⟨r71, h71, hf⟩ := bd_s hf
  replace hf := bt_s hf
  refine gSi (As := [.int (zI x3)]) (rest := []) C hw (tX11_bits h71) (va_cwS 1 hts gX11_dynastySet_X11_bits rfl rfl rfl (by decide +kernel) ⟨Nat.le_of_ble_eq_true rfl, Nat.le_of_ble_eq_true rfl⟩) rfl hl.1 rfl (Nat.le_of_ble_eq_true rfl) dX11_dynastySet_71 (fun H locs hw => ?_)
  refine lv_iload_n hx hb dX11_dynastySet_74 rfl (lv_at hl 3 rfl) ?_
  obtain ⟨r75, h75, hf⟩ := bd_s hf
  replace hf := bt_s hf
  refine gSi (As := [.int (zI x2)]) (rest := [.int (zI r71)]) C hw (tX11_bits h75) (va_cwS 1 hts gX11_dynastySet_X11_bits rfl rfl rfl (by decide +kernel) ⟨Nat.le_of_ble_eq_true rfl, Nat.le_of_ble_eq_true rfl⟩) rfl hl.1 rfl (Nat.le_of_ble_eq_true rfl) dX11_dynastySet_75 (fun H locs hw => ?_)
  obtain ⟨hg78, hf⟩ := gd_s hf
  refine zv_icmp_ne (tgt := 98) hx hb hg78 dX11_dynastySet_78 (by decide) (fun (c78 : ¬ (r71 = r75)) => ?_) (fun (c78 : r71 = r75) => ?_)
  · rw [if_neg c78] at hf
    exact wX11_dynastySet_98 C hret _ hk10 x1 x2 x3 x4 t0 H locs ls hw (lv_sub hl [1, 2, 3, 4, 5, 0] rfl) hf
  · rw [if_pos c78] at hf
    refine lv_aload_n hx hb dX11_dynastySet_81 rfl (lv_at hl 1 rfl) ?_
    refine lv_iload_n hx hb dX11_dynastySet_82 rfl (lv_at hl 4 rfl) ?_
    obtain ⟨r83, h83, hf⟩ := bd_s hf
    replace hf := bt_s hf
    refine gVi (As := [.int (zI x3)]) (rest := []) C hw (tX11_minutesOf h83) (cwV 1 hts gX11_dynastySet_X11_minutesOf rfl rfl rfl (by decide +kernel) ⟨Nat.le_of_ble_eq_true rfl, Nat.le_of_ble_eq_true rfl⟩) 11 0 rfl rfl rfl hl.1 rfl (Nat.le_of_ble_eq_true rfl) dX11_dynastySet_83 (fun H locs hw => ?_)
    refine lv_aload_n hx hb dX11_dynastySet_86 rfl (lv_at hl 1 rfl) ?_
    refine lv_iload_n hx hb dX11_dynastySet_87 rfl (lv_at hl 3 rfl) ?_
    obtain ⟨r88, h88, hf⟩ := bd_s hf
    replace hf := bt_s hf
    refine gVi (As := [.int (zI x2)]) (rest := [.int (zI r83)]) C hw (tX11_minutesOf h88) (cwV 1 hts gX11_dynastySet_X11_minutesOf rfl rfl rfl (by decide +kernel) ⟨Nat.le_of_ble_eq_true rfl, Nat.le_of_ble_eq_true rfl⟩) 11 0 rfl rfl rfl hl.1 rfl (Nat.le_of_ble_eq_true rfl) dX11_dynastySet_88 (fun H locs hw => ?_)
    obtain ⟨hg91, hf⟩ := gd_s hf
    refine zv_icmp_le (tgt := 98) hx hb hg91 dX11_dynastySet_91 (by decide) (fun (c91 : r83 ≤ r88) => ?_) (fun (c91 : ¬ (r83 ≤ r88)) => ?_)
    · rw [if_pos c91] at hf
      exact wX11_dynastySet_98 C hret _ hk10 x1 x2 x3 x4 t0 H locs ls hw (lv_sub hl [1, 2, 3, 4, 5, 0] rfl) hf
    · rw [if_neg c91] at hf
      refine lv_iconst (v := zI 1) hx hb dX11_dynastySet_94 rfl ?_
      refine lv_goto (tgt := 99) hx hb dX11_dynastySet_95 (by decide) ?_
      exact wX11_dynastySet_99 C hret _ hk10 x1 x2 x3 x4 t0 1 H locs ls hw (lv_sub hl [1, 2, 3, 4, 5, 0] rfl) hf
set_option maxHeartbeats 4000000 in
set_option maxRecDepth 100000 in
theorem wX11_dynastySet_50 {p : Program} {l : Launch} {e : Env} {s : State} {m : MethodId} {args : Array Value} {below : List Frame} {meth : Method} {c : Code} {D : va_G} {A : Nat → Prop} {q : Nat → Nat} {cI cZ : ClassId} {Q : State → Prop} {σ : St} {r : Int} (C : Cx p s m args meth c D (TY cI cZ) cX11_dynastySet (some .int) 7 wsX11_dynastySet RX11) (hret : RtI p l e rmX11_dynastySet s m args below meth c D A cX11_dynastySet Q (wM q cI cZ σ) (zI r)) (k10 : Int → Int → Int → Option (Int)) (hk10 : ∀ (x1 : Int) (x2 : Int) (x3 : Int) (H : Heap) (locs : List Loc) (ls : Array Slot), Wd D A s (wM q cI cZ σ) H locs → lv_has ls 7 [(0, .ref (q 0)), (1, .int (zI x1)), (2, .int (zI x2)), (3, .int (zI x3))] → k10 x1 x2 x3 = some r → W p l e rmX11_dynastySet s m args below meth c H locs 0 0 Q (F0 m 10 ls [])) :
    ∀ (x1 : Int) (x2 : Int) (x3 : Int) (t0 : Int) (H : Heap) (locs : List Loc) (ls : Array Slot), Wd D A s (wM q cI cZ σ) H locs → lv_has ls 7 [(0, .ref (q 0)), (1, .int (zI x1)), (2, .int (zI x2)), (3, .int (zI x3))] → pX11_dynastySet_50 k10 σ x1 x2 x3 t0 = some r → W p l e rmX11_dynastySet s m args below meth c H locs 0 0 Q (F0 m 50 ls [.int (zI t0)]) := by
  obtain ⟨hx, hb, hr, hml, hown, hts, hlk, hK, hN⟩ := id C
  intro x1 x2 x3 t0 H locs ls hw hl hf
  rw [pX11_dynastySet_50] at hf
  refine lv_istore (lv' := [(4, .int (zI t0)), (0, .ref (q 0)), (1, .int (zI x1)), (2, .int (zI x2)), (3, .int (zI x3))]) hx hb dX11_dynastySet_50 hl (by decide) rfl (fun ls hl => ?_)
  refine lv_iload_n hx hb dX11_dynastySet_52 rfl (lv_at hl 4 rfl) ?_
  obtain ⟨r53, h53, hf⟩ := bd_s hf
  replace hf := bt_s hf
  refine gSi (As := [.int (zI x3)]) (rest := []) C hw (tX11_bits h53) (va_cwS 1 hts gX11_dynastySet_X11_bits rfl rfl rfl (by decide +kernel) ⟨Nat.le_of_ble_eq_true rfl, Nat.le_of_ble_eq_true rfl⟩) rfl hl.1 rfl (Nat.le_of_ble_eq_true rfl) dX11_dynastySet_53 (fun H locs hw => ?_)
  refine lv_iload_n hx hb dX11_dynastySet_56 rfl (lv_at hl 3 rfl) ?_
  obtain ⟨r57, h57, hf⟩ := bd_s hf
  replace hf := bt_s hf
  refine gSi (As := [.int (zI x2)]) (rest := [.int (zI r53)]) C hw (tX11_bits h57) (va_cwS 1 hts gX11_dynastySet_X11_bits rfl rfl rfl (by decide +kernel) ⟨Nat.le_of_ble_eq_true rfl, Nat.le_of_ble_eq_true rfl⟩) rfl hl.1 rfl (Nat.le_of_ble_eq_true rfl) dX11_dynastySet_57 (fun H locs hw => ?_)
  obtain ⟨hg60, hf⟩ := gd_s hf
  refine zv_icmp_le (tgt := 67) hx hb hg60 dX11_dynastySet_60 (by decide) (fun (c60 : r53 ≤ r57) => ?_) (fun (c60 : ¬ (r53 ≤ r57)) => ?_)
  · rw [if_pos c60] at hf
    refine lv_iconst (v := zI 0) hx hb dX11_dynastySet_67 rfl ?_
    exact wX11_dynastySet_68 C hret _ hk10 x1 x2 x3 t0 0 H locs ls hw (lv_sub hl [1, 2, 3, 4, 0] rfl) hf
  · rw [if_neg c60] at hf
    refine lv_iconst (v := zI 1) hx hb dX11_dynastySet_63 rfl ?_
    refine lv_goto (tgt := 68) hx hb dX11_dynastySet_64 (by decide) ?_
    exact wX11_dynastySet_68 C hret _ hk10 x1 x2 x3 t0 1 H locs ls hw (lv_sub hl [1, 2, 3, 4, 0] rfl) hf
set_option maxHeartbeats 4000000 in
set_option maxRecDepth 100000 in
theorem wX11_dynastySet_49 {p : Program} {l : Launch} {e : Env} {s : State} {m : MethodId} {args : Array Value} {below : List Frame} {meth : Method} {c : Code} {D : va_G} {A : Nat → Prop} {q : Nat → Nat} {cI cZ : ClassId} {Q : State → Prop} {σ : St} {r : Int} (C : Cx p s m args meth c D (TY cI cZ) cX11_dynastySet (some .int) 7 wsX11_dynastySet RX11) (hret : RtI p l e rmX11_dynastySet s m args below meth c D A cX11_dynastySet Q (wM q cI cZ σ) (zI r)) (k10 : Int → Int → Int → Option (Int)) (hk10 : ∀ (x1 : Int) (x2 : Int) (x3 : Int) (H : Heap) (locs : List Loc) (ls : Array Slot), Wd D A s (wM q cI cZ σ) H locs → lv_has ls 7 [(0, .ref (q 0)), (1, .int (zI x1)), (2, .int (zI x2)), (3, .int (zI x3))] → k10 x1 x2 x3 = some r → W p l e rmX11_dynastySet s m args below meth c H locs 0 0 Q (F0 m 10 ls [])) :
    ∀ (x1 : Int) (x2 : Int) (x3 : Int) (H : Heap) (locs : List Loc) (ls : Array Slot), Wd D A s (wM q cI cZ σ) H locs → lv_has ls 7 [(0, .ref (q 0)), (1, .int (zI x1)), (2, .int (zI x2)), (3, .int (zI x3))] → pX11_dynastySet_49 k10 σ x1 x2 x3 = some r → W p l e rmX11_dynastySet s m args below meth c H locs 0 0 Q (F0 m 49 ls []) := by
  obtain ⟨hx, hb, hr, hml, hown, hts, hlk, hK, hN⟩ := id C
  intro x1 x2 x3 H locs ls hw hl hf
  rw [pX11_dynastySet_49] at hf
  refine lv_iconst (v := zI 0) hx hb dX11_dynastySet_49 rfl ?_
  exact wX11_dynastySet_50 C hret _ hk10 x1 x2 x3 0 H locs ls hw (lv_sub hl [0, 1, 2, 3] rfl) hf
set_option maxHeartbeats 4000000 in
set_option maxRecDepth 100000 in
theorem wX11_dynastySet_10 {p : Program} {l : Launch} {e : Env} {s : State} {m : MethodId} {args : Array Value} {below : List Frame} {meth : Method} {c : Code} {D : va_G} {A : Nat → Prop} {q : Nat → Nat} {cI cZ : ClassId} {Q : State → Prop} {σ : St} {r : Int} (C : Cx p s m args meth c D (TY cI cZ) cX11_dynastySet (some .int) 7 wsX11_dynastySet RX11) (hret : RtI p l e rmX11_dynastySet s m args below meth c D A cX11_dynastySet Q (wM q cI cZ σ) (zI r)) :
    ∀ (n : Nat) (x1 : Int) (x2 : Int) (x3 : Int) (H : Heap) (locs : List Loc) (ls : Array Slot), Wd D A s (wM q cI cZ σ) H locs → lv_has ls 7 [(0, .ref (q 0)), (1, .int (zI x1)), (2, .int (zI x2)), (3, .int (zI x3))] → pX11_dynastySet_10 σ n x1 x2 x3 = some r → W p l e rmX11_dynastySet s m args below meth c H locs 0 0 Q (F0 m 10 ls []) := by
  obtain ⟨hx, hb, hr, hml, hown, hts, hlk, hK, hN⟩ := id C
  intro n
  induction n with
  | zero =>
    intro x1 x2 x3 H locs ls hw hl hf
    exact absurd (show (none : Option (Int)) = some r from hf) (by simp)
  | succ n ih =>
    intro x1 x2 x3 H locs ls hw hl hf
    rw [pX11_dynastySet_10] at hf
    refine lv_iload_n hx hb dX11_dynastySet_10 rfl (lv_at hl 3 rfl) ?_
    refine lv_iconst (v := zI 1) hx hb dX11_dynastySet_11 rfl ?_
    refine lv_aload_n hx hb dX11_dynastySet_12 rfl (lv_at hl 0 rfl) ?_
    refine va_get (D := D) (ci := 11) (v := .int (zI (σ.1 2))) (C := RX11) (T := TX11) (N := 40) hx hb hts (fun _ h => List.mem_cons_of_mem _ (List.mem_append_right _ h)) hown hK hw.1 0 rfl rfl 2 (by decide) (hts (.fieldLink RX11 93 "EggThronesModel" "eggs" "I") (List.mem_of_getElem? (i := 1) rfl)) (fun _ h9 => h9) rfl dX11_dynastySet_13 ?_
    refine zv_ishl hx hb dX11_dynastySet_16 ?_
    obtain ⟨hg17, hf⟩ := gd_s hf
    refine zv_icmp_ge (tgt := 128) hx hb hg17 dX11_dynastySet_17 (by decide) (fun (c17 : (zShl 1 (σ.1 2)) ≤ x3) => ?_) (fun (c17 : ¬ ((zShl 1 (σ.1 2)) ≤ x3)) => ?_)
    · rw [if_pos c17] at hf
      refine lv_iload_n hx hb dX11_dynastySet_128 rfl (lv_at hl 2 rfl) ?_
      cases hf
      exact hret H locs ls 129 dX11_dynastySet_129 hw
    · rw [if_neg c17] at hf
      refine lv_iload_n hx hb dX11_dynastySet_20 rfl (lv_at hl 3 rfl) ?_
      refine lv_iload_n hx hb dX11_dynastySet_21 rfl (lv_at hl 1 rfl) ?_
      refine lv_iconst (v := zI (-1)) hx hb dX11_dynastySet_22 rfl ?_
      refine zv_ixor hx hb dX11_dynastySet_23 ?_
      refine zv_iand hx hb dX11_dynastySet_24 ?_
      obtain ⟨hg25, hf⟩ := gd_s hf
      refine zv_if_ne (tgt := 49) hx hb hg25 dX11_dynastySet_25 (by decide) (fun (c25 : ¬ ((zAnd x3 (zXor x1 (-1))) = 0)) => ?_) (fun (c25 : (zAnd x3 (zXor x1 (-1))) = 0) => ?_)
      · rw [if_neg c25] at hf
        exact wX11_dynastySet_49 C hret _ ih x1 x2 x3 H locs ls hw (lv_sub hl [0, 1, 2, 3] rfl) hf
      · rw [if_pos c25] at hf
        refine lv_iconst (v := zI 2) hx hb dX11_dynastySet_28 rfl ?_
        refine lv_aload_n hx hb dX11_dynastySet_29 rfl (lv_at hl 0 rfl) ?_
        refine lv_iload_n hx hb dX11_dynastySet_30 rfl (lv_at hl 3 rfl) ?_
        obtain ⟨r31, h31, hf⟩ := bd_s hf
        replace hf := bt_s hf
        refine gVi (As := [.int (zI x3)]) (rest := [.int (zI 2)]) C hw (tX11_minutesOf h31) (cwV 1 hts gX11_dynastySet_X11_minutesOf rfl rfl rfl (by decide +kernel) ⟨Nat.le_of_ble_eq_true rfl, Nat.le_of_ble_eq_true rfl⟩) 11 0 rfl rfl rfl hl.1 rfl (Nat.le_of_ble_eq_true rfl) dX11_dynastySet_31 (fun H locs hw => ?_)
        refine zv_imul hx hb dX11_dynastySet_34 ?_
        refine lv_aload_n hx hb dX11_dynastySet_35 rfl (lv_at hl 0 rfl) ?_
        refine va_get (D := D) (ci := 11) (v := .ref (q 6)) (C := RX11) (T := TX11) (N := 40) hx hb hts (fun _ h => List.mem_cons_of_mem _ (List.mem_append_right _ h)) hown hK hw.1 0 rfl rfl 9 (by decide) (hts (.fieldLink RX11 25 "EggThronesModel" "now" "[I") (List.mem_of_getElem? (i := 2) rfl)) (fun _ h9 => h9) rfl dX11_dynastySet_36 ?_
        refine lv_bipush (v := zI 14) hx hb dX11_dynastySet_39 (by decide +kernel) ?_
        refine zv_iald (D := D) hx hb hK hw.1 6 0 rfl rfl (by decide) (by decide) dX11_dynastySet_41 ?_
        obtain ⟨hg42, hf⟩ := gd_s hf
        refine zv_icmp_gt (tgt := 49) hx hb hg42 dX11_dynastySet_42 (by decide) (fun (c42 : (σ.2 5 14) < (2 * r31)) => ?_) (fun (c42 : ¬ ((σ.2 5 14) < (2 * r31))) => ?_)
        · rw [if_pos c42] at hf
          exact wX11_dynastySet_49 C hret _ ih x1 x2 x3 H locs ls hw (lv_sub hl [0, 1, 2, 3] rfl) hf
        · rw [if_neg c42] at hf
          refine lv_iconst (v := zI 1) hx hb dX11_dynastySet_45 rfl ?_
          refine lv_goto (tgt := 50) hx hb dX11_dynastySet_46 (by decide) ?_
          exact wX11_dynastySet_50 C hret _ ih x1 x2 x3 1 H locs ls hw (lv_sub hl [0, 1, 2, 3] rfl) hf
set_option maxHeartbeats 4000000 in
set_option maxRecDepth 100000 in
theorem wX11_dynastySet_0 {p : Program} {l : Launch} {e : Env} {s : State} {m : MethodId} {args : Array Value} {below : List Frame} {meth : Method} {c : Code} {D : va_G} {A : Nat → Prop} {q : Nat → Nat} {cI cZ : ClassId} {Q : State → Prop} {σ : St} {r : Int} (C : Cx p s m args meth c D (TY cI cZ) cX11_dynastySet (some .int) 7 wsX11_dynastySet RX11) (hret : RtI p l e rmX11_dynastySet s m args below meth c D A cX11_dynastySet Q (wM q cI cZ σ) (zI r)) :
    ∀ (H : Heap) (locs : List Loc) (ls : Array Slot), Wd D A s (wM q cI cZ σ) H locs → lv_has ls 7 [(0, .ref (q 0))] → pX11_dynastySet_0 σ = some r → W p l e rmX11_dynastySet s m args below meth c H locs 0 0 Q (F0 m 0 ls []) := by
  obtain ⟨hx, hb, hr, hml, hown, hts, hlk, hK, hN⟩ := id C
  intro H locs ls hw hl hf
  rw [pX11_dynastySet_0] at hf
  refine lv_aload_n hx hb dX11_dynastySet_0 rfl (lv_at hl 0 rfl) ?_
  refine lv_iconst (v := zI 2) hx hb dX11_dynastySet_1 rfl ?_
  obtain ⟨r2, h2, hf⟩ := bd_s hf
  replace hf := bt_s hf
  refine gVi (As := [.int (zI 2)]) (rest := []) C hw (tX11_allThat h2) (cwV 1 hts gX11_dynastySet_X11_allThat rfl rfl rfl (by decide +kernel) ⟨Nat.le_of_ble_eq_true rfl, Nat.le_of_ble_eq_true rfl⟩) 11 0 rfl rfl rfl hl.1 rfl (Nat.le_of_ble_eq_true rfl) dX11_dynastySet_2 (fun H locs hw => ?_)
  refine lv_istore_n (lv' := [(1, .int (zI r2)), (0, .ref (q 0))]) hx hb dX11_dynastySet_5 rfl hl (by decide) rfl (fun ls hl => ?_)
  refine lv_iconst (v := zI 0) hx hb dX11_dynastySet_6 rfl ?_
  refine lv_istore_n (lv' := [(2, .int (zI 0)), (1, .int (zI r2)), (0, .ref (q 0))]) hx hb dX11_dynastySet_7 rfl hl (by decide) rfl (fun ls hl => ?_)
  refine lv_iconst (v := zI 0) hx hb dX11_dynastySet_8 rfl ?_
  refine lv_istore_n (lv' := [(3, .int (zI 0)), (2, .int (zI 0)), (1, .int (zI r2)), (0, .ref (q 0))]) hx hb dX11_dynastySet_9 rfl hl (by decide) rfl (fun ls hl => ?_)
  exact wX11_dynastySet_10 C hret FU r2 0 0 H locs ls hw (lv_sub hl [3, 2, 1, 0] rfl) hf
set_option maxHeartbeats 4000000 in
set_option maxRecDepth 100000 in
theorem tX11_dynastySet {l : Launch} {D : va_G} {A : Nat → Prop} {cI cZ : ClassId} {q : Nat → Nat} {σ : St} {r : Int} (hf : pX11_dynastySet σ = some r) : Met l yX11_dynastySet wsX11_dynastySet rmX11_dynastySet (va_Pc [.ref (q 0)] (CX D (TY cI cZ) A (wM q cI cZ σ))) (QI D (TY cI cZ) A (wM q cI cZ σ) (zI r)) 0 0 A := by
  refine opn (cc := cX11_dynastySet) (maxL := 7) (ret := (some .int)) (by decide) rfl (Nat.le_of_ble_eq_true rfl) (fun p e s m below meth c C ls hw hl => ?_)
  have hl : lv_has ls 7 [(0, .ref (q 0))] := hl
  rw [pX11_dynastySet] at hf
  exact wX11_dynastySet_0 C (rtI C) _ _ ls hw (lv_sub hl [0] rfl) hf
