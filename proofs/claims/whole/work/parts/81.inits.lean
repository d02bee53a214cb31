abbrev rmX8_init : Room := { frames := 1, cells := 5, slots := 31, locals := 12 }
def mkX8 (h0 : Nat) (cI cZ : ClassId) (u : Nat × Nat × Nat × Nat × Nat) : va_W := [(h0, .inr (8, [.int (zI 0), .int (zI 0), .int (zI 0), .int (zI 0), .int (zI 0), .ref (u.1), .ref (u.2.1), .ref (u.2.2.1), .ref (u.2.2.2.1), .ref (u.2.2.2.2)])), ((u.1), .inl (cI, 7, .inl (fun _ => zI 0))), ((u.2.1), .inl (cI, 7, .inl (fun _ => zI 0))), ((u.2.2.1), .inl (cI, 7, .inl (fun _ => zI 0))), ((u.2.2.2.1), .inl (cI, 5, .inl (fun _ => zI 0))), ((u.2.2.2.2), .inl (cI, 5, .inl (fun _ => zI 0)))]
set_option maxHeartbeats 4000000 in
set_option maxRecDepth 100000 in
theorem tX8_init {l : Launch} {D : va_G} {cI cZ : ClassId} {h0 sz : Nat} : Met l yX8_init wsX8_init rmX8_init (va_Pc [.ref h0] (CXn D (TY cI cZ) sz [(h0, .inr (8, [.int (zI 0), .int (zI 0), .int (zI 0), .int (zI 0), .int (zI 0), .null, .null, .null, .null, .null]))])) (QN D (TY cI cZ) sz [(h0, .inr (8, [.int (zI 0), .int (zI 0), .int (zI 0), .int (zI 0), .int (zI 0), .null, .null, .null, .null, .null]))] (fun (_ : Nat × Nat × Nat × Nat × Nat) => True) (mkX8 h0 cI cZ)) 5 31 (va_A [(h0, .inr (8, [.int (zI 0), .int (zI 0), .int (zI 0), .int (zI 0), .int (zI 0), .null, .null, .null, .null, .null]))] sz) := by
  refine opnN (cc := cX8_init) (maxL := 1) rfl (by decide) rfl (Nat.le_of_ble_eq_true rfl) (fun p e s m below meth c C hin hz ls hw hl => ?_)
  obtain ⟨hx, hb, hr, hml, hown, hts, hlk, hK, hN⟩ := id C
  have hl : lv_has ls 1 [(0, .ref h0)] := hl
  have hA : ∀ q : Nat, s.heap.size ≤ q → va_A [(h0, .inr (8, [.int (zI 0), .int (zI 0), .int (zI 0), .int (zI 0), .int (zI 0), .null, .null, .null, .null, .null]))] sz q := fun q h => Or.inr (by omega)
  obtain ⟨A, hAe⟩ : ∃ A : Nat → Prop, A = va_A [(h0, .inr (8, [.int (zI 0), .int (zI 0), .int (zI 0), .int (zI 0), .int (zI 0), .null, .null, .null, .null, .null]))] sz := ⟨_, rfl⟩
  rw [← hAe] at hw hA
  obtain ⟨H, locs, eH, eL⟩ : ∃ (H : Heap) (locs : List Loc), H = s.heap ∧ locs = [] := ⟨_, _, rfl, rfl⟩
  rw [← eH, ← eL] at hw ⊢
  refine lv_aload_n hx hb dX8_init_0 rfl (lv_at hl 0 rfl) ?_
  refine W.objInit hx hb hown (hts (.methodLink RX8 3 objectInit) (List.mem_of_getElem? (i := 1) rfl)) (hts (.instanceMethod objectInit) (List.mem_of_getElem? (i := 2) rfl)) (hts (.code objectInit ⟨#[0xb1]⟩ 1 none) (List.mem_of_getElem? (i := 3) rfl)) rfl (by rw [hml]; exact hl.1) rfl dX8_init_1 (Nat.le_of_ble_eq_true rfl) (Nat.le_of_ble_eq_true rfl) ?_
  refine W.eq (g2 := F0 m 4 ls []) rfl ?_
  refine lv_aload_n hx hb dX8_init_4 rfl (lv_at hl 0 rfl) ?_
  refine lv_bipush (v := zI 7) hx hb dX8_init_5 (by decide +kernel) ?_
  refine nwI (N := 7) C hA hw (hts (.arrayClass .int) (List.mem_of_getElem? (i := 4) rfl)) (by decide) (by decide) (by decide) dX8_init_7 (fun z1 H hw => ?_)
  have hw : Wd D A s [(h0, .inr (8, [.int (zI 0), .int (zI 0), .int (zI 0), .int (zI 0), .int (zI 0), .null, .null, .null, .null, .null])), (z1, .inl (cI, 7, .inl (fun _ => zI 0)))] H locs := hw
  refine W.widen (k := 1) (n := 7) (by decide) (by decide) ?_
  refine va_putF (D := D) (ci := 8) (v := .ref z1) (ty := (.array .int)) (C := RX8) (T := TX8) (N := 10) hx hb hts (fun _ h => List.mem_cons_of_mem _ (List.mem_append_right _ h)) tyX8 tyX8_ok nmX8 hown hK hw.1 hw.2.1 hw.2.2 0 rfl rfl 5 (by decide) (hts (.fieldLink RX8 9 "EggThrones$Table" "ages" "[I") (List.mem_of_getElem? (i := 5) rfl)) (fun _ h9 => h9) rfl hin rfl (by decide +kernel) rfl rfl (Nat.le_of_ble_eq_true rfl) dX8_init_9 (fun H locs hP hD hS => ?_)
  have hw : Wd D A s [(h0, .inr (8, [.int (zI 0), .int (zI 0), .int (zI 0), .int (zI 0), .int (zI 0), .ref z1, .null, .null, .null, .null])), (z1, .inl (cI, 7, .inl (fun _ => zI 0)))] H locs := ⟨hP, hD, hS⟩
  refine lv_aload_n hx hb dX8_init_12 rfl (lv_at hl 0 rfl) ?_
  refine lv_bipush (v := zI 7) hx hb dX8_init_13 (by decide +kernel) ?_
  refine nwI (N := 7) C hA hw (hts (.arrayClass .int) (List.mem_of_getElem? (i := 4) rfl)) (by decide) (by decide) (by decide) dX8_init_15 (fun z2 H hw => ?_)
  have hw : Wd D A s [(h0, .inr (8, [.int (zI 0), .int (zI 0), .int (zI 0), .int (zI 0), .int (zI 0), .ref z1, .null, .null, .null, .null])), (z1, .inl (cI, 7, .inl (fun _ => zI 0))), (z2, .inl (cI, 7, .inl (fun _ => zI 0)))] H locs := hw
  refine W.widen (k := 2) (n := 14) (by decide) (by decide) ?_
  refine va_putF (D := D) (ci := 8) (v := .ref z2) (ty := (.array .int)) (C := RX8) (T := TX8) (N := 10) hx hb hts (fun _ h => List.mem_cons_of_mem _ (List.mem_append_right _ h)) tyX8 tyX8_ok nmX8 hown hK hw.1 hw.2.1 hw.2.2 0 rfl rfl 6 (by decide) (hts (.fieldLink RX8 15 "EggThrones$Table" "sizes" "[I") (List.mem_of_getElem? (i := 6) rfl)) (fun _ h9 => h9) rfl hin rfl (by decide +kernel) rfl rfl (Nat.le_of_ble_eq_true rfl) dX8_init_17 (fun H locs hP hD hS => ?_)
  have hw : Wd D A s [(h0, .inr (8, [.int (zI 0), .int (zI 0), .int (zI 0), .int (zI 0), .int (zI 0), .ref z1, .ref z2, .null, .null, .null])), (z1, .inl (cI, 7, .inl (fun _ => zI 0))), (z2, .inl (cI, 7, .inl (fun _ => zI 0)))] H locs := ⟨hP, hD, hS⟩
  refine lv_aload_n hx hb dX8_init_20 rfl (lv_at hl 0 rfl) ?_
  refine lv_bipush (v := zI 7) hx hb dX8_init_21 (by decide +kernel) ?_
  refine nwI (N := 7) C hA hw (hts (.arrayClass .int) (List.mem_of_getElem? (i := 4) rfl)) (by decide) (by decide) (by decide) dX8_init_23 (fun z3 H hw => ?_)
  have hw : Wd D A s [(h0, .inr (8, [.int (zI 0), .int (zI 0), .int (zI 0), .int (zI 0), .int (zI 0), .ref z1, .ref z2, .null, .null, .null])), (z1, .inl (cI, 7, .inl (fun _ => zI 0))), (z2, .inl (cI, 7, .inl (fun _ => zI 0))), (z3, .inl (cI, 7, .inl (fun _ => zI 0)))] H locs := hw
  refine W.widen (k := 3) (n := 21) (by decide) (by decide) ?_
  refine va_putF (D := D) (ci := 8) (v := .ref z3) (ty := (.array .int)) (C := RX8) (T := TX8) (N := 10) hx hb hts (fun _ h => List.mem_cons_of_mem _ (List.mem_append_right _ h)) tyX8 tyX8_ok nmX8 hown hK hw.1 hw.2.1 hw.2.2 0 rfl rfl 7 (by decide) (hts (.fieldLink RX8 18 "EggThrones$Table" "wishes" "[I") (List.mem_of_getElem? (i := 7) rfl)) (fun _ h9 => h9) rfl hin rfl (by decide +kernel) rfl rfl (Nat.le_of_ble_eq_true rfl) dX8_init_25 (fun H locs hP hD hS => ?_)
  have hw : Wd D A s [(h0, .inr (8, [.int (zI 0), .int (zI 0), .int (zI 0), .int (zI 0), .int (zI 0), .ref z1, .ref z2, .ref z3, .null, .null])), (z1, .inl (cI, 7, .inl (fun _ => zI 0))), (z2, .inl (cI, 7, .inl (fun _ => zI 0))), (z3, .inl (cI, 7, .inl (fun _ => zI 0)))] H locs := ⟨hP, hD, hS⟩
  refine lv_aload_n hx hb dX8_init_28 rfl (lv_at hl 0 rfl) ?_
  refine lv_iconst (v := zI 5) hx hb dX8_init_29 rfl ?_
  refine nwI (N := 5) C hA hw (hts (.arrayClass .int) (List.mem_of_getElem? (i := 4) rfl)) (by decide) (by decide) (by decide) dX8_init_30 (fun z4 H hw => ?_)
  have hw : Wd D A s [(h0, .inr (8, [.int (zI 0), .int (zI 0), .int (zI 0), .int (zI 0), .int (zI 0), .ref z1, .ref z2, .ref z3, .null, .null])), (z1, .inl (cI, 7, .inl (fun _ => zI 0))), (z2, .inl (cI, 7, .inl (fun _ => zI 0))), (z3, .inl (cI, 7, .inl (fun _ => zI 0))), (z4, .inl (cI, 5, .inl (fun _ => zI 0)))] H locs := hw
  refine W.widen (k := 4) (n := 26) (by decide) (by decide) ?_
  refine va_putF (D := D) (ci := 8) (v := .ref z4) (ty := (.array .int)) (C := RX8) (T := TX8) (N := 10) hx hb hts (fun _ h => List.mem_cons_of_mem _ (List.mem_append_right _ h)) tyX8 tyX8_ok nmX8 hown hK hw.1 hw.2.1 hw.2.2 0 rfl rfl 8 (by decide) (hts (.fieldLink RX8 21 "EggThrones$Table" "softest" "[I") (List.mem_of_getElem? (i := 8) rfl)) (fun _ h9 => h9) rfl hin rfl (by decide +kernel) rfl rfl (Nat.le_of_ble_eq_true rfl) dX8_init_32 (fun H locs hP hD hS => ?_)
  have hw : Wd D A s [(h0, .inr (8, [.int (zI 0), .int (zI 0), .int (zI 0), .int (zI 0), .int (zI 0), .ref z1, .ref z2, .ref z3, .ref z4, .null])), (z1, .inl (cI, 7, .inl (fun _ => zI 0))), (z2, .inl (cI, 7, .inl (fun _ => zI 0))), (z3, .inl (cI, 7, .inl (fun _ => zI 0))), (z4, .inl (cI, 5, .inl (fun _ => zI 0)))] H locs := ⟨hP, hD, hS⟩
  refine lv_aload_n hx hb dX8_init_35 rfl (lv_at hl 0 rfl) ?_
  refine lv_iconst (v := zI 5) hx hb dX8_init_36 rfl ?_
  refine nwI (N := 5) C hA hw (hts (.arrayClass .int) (List.mem_of_getElem? (i := 4) rfl)) (by decide) (by decide) (by decide) dX8_init_37 (fun z5 H hw => ?_)
  have hw : Wd D A s [(h0, .inr (8, [.int (zI 0), .int (zI 0), .int (zI 0), .int (zI 0), .int (zI 0), .ref z1, .ref z2, .ref z3, .ref z4, .null])), (z1, .inl (cI, 7, .inl (fun _ => zI 0))), (z2, .inl (cI, 7, .inl (fun _ => zI 0))), (z3, .inl (cI, 7, .inl (fun _ => zI 0))), (z4, .inl (cI, 5, .inl (fun _ => zI 0))), (z5, .inl (cI, 5, .inl (fun _ => zI 0)))] H locs := hw
  refine W.widen (k := 5) (n := 31) (by decide) (by decide) ?_
  refine va_putF (D := D) (ci := 8) (v := .ref z5) (ty := (.array .int)) (C := RX8) (T := TX8) (N := 10) hx hb hts (fun _ h => List.mem_cons_of_mem _ (List.mem_append_right _ h)) tyX8 tyX8_ok nmX8 hown hK hw.1 hw.2.1 hw.2.2 0 rfl rfl 9 (by decide) (hts (.fieldLink RX8 24 "EggThrones$Table" "hardest" "[I") (List.mem_of_getElem? (i := 9) rfl)) (fun _ h9 => h9) rfl hin rfl (by decide +kernel) rfl rfl (Nat.le_of_ble_eq_true rfl) dX8_init_39 (fun H locs hP hD hS => ?_)
  have hw : Wd D A s [(h0, .inr (8, [.int (zI 0), .int (zI 0), .int (zI 0), .int (zI 0), .int (zI 0), .ref z1, .ref z2, .ref z3, .ref z4, .ref z5])), (z1, .inl (cI, 7, .inl (fun _ => zI 0))), (z2, .inl (cI, 7, .inl (fun _ => zI 0))), (z3, .inl (cI, 7, .inl (fun _ => zI 0))), (z4, .inl (cI, 5, .inl (fun _ => zI 0))), (z5, .inl (cI, 5, .inl (fun _ => zI 0)))] H locs := ⟨hP, hD, hS⟩
  refine lv_aload_n hx hb dX8_init_42 rfl (lv_at hl 0 rfl) ?_
  refine lv_iconst (v := zI 0) hx hb dX8_init_43 rfl ?_
  refine va_put (D := D) (ci := 8) (v := .int (zI 0)) (ty := .int) (C := RX8) (T := TX8) (N := 10) hx hb hts (fun _ h => List.mem_cons_of_mem _ (List.mem_append_right _ h)) tyX8 tyX8_ok nmX8 hown hK hw.1 hw.2.1 hw.2.2 0 rfl rfl 0 (by decide) (hts (.fieldLink RX8 27 "EggThrones$Table" "places" "I") (List.mem_of_getElem? (i := 10) rfl)) (fun _ h9 => h9) rfl (by decide +kernel) rfl rfl (Nat.le_of_ble_eq_true rfl) dX8_init_44 (fun H locs hP hD hS => ?_)
  have hw : Wd D A s [(h0, .inr (8, [.int (zI 0), .int (zI 0), .int (zI 0), .int (zI 0), .int (zI 0), .ref z1, .ref z2, .ref z3, .ref z4, .ref z5])), (z1, .inl (cI, 7, .inl (fun _ => zI 0))), (z2, .inl (cI, 7, .inl (fun _ => zI 0))), (z3, .inl (cI, 7, .inl (fun _ => zI 0))), (z4, .inl (cI, 5, .inl (fun _ => zI 0))), (z5, .inl (cI, 5, .inl (fun _ => zI 0)))] H locs := ⟨hP, hD, hS⟩
  refine lv_aload_n hx hb dX8_init_47 rfl (lv_at hl 0 rfl) ?_
  refine lv_iconst (v := zI 0) hx hb dX8_init_48 rfl ?_
  refine va_put (D := D) (ci := 8) (v := .int (zI 0)) (ty := .int) (C := RX8) (T := TX8) (N := 10) hx hb hts (fun _ h => List.mem_cons_of_mem _ (List.mem_append_right _ h)) tyX8 tyX8_ok nmX8 hown hK hw.1 hw.2.1 hw.2.2 0 rfl rfl 1 (by decide) (hts (.fieldLink RX8 31 "EggThrones$Table" "toast" "I") (List.mem_of_getElem? (i := 11) rfl)) (fun _ h9 => h9) rfl (by decide +kernel) rfl rfl (Nat.le_of_ble_eq_true rfl) dX8_init_49 (fun H locs hP hD hS => ?_)
  have hw : Wd D A s [(h0, .inr (8, [.int (zI 0), .int (zI 0), .int (zI 0), .int (zI 0), .int (zI 0), .ref z1, .ref z2, .ref z3, .ref z4, .ref z5])), (z1, .inl (cI, 7, .inl (fun _ => zI 0))), (z2, .inl (cI, 7, .inl (fun _ => zI 0))), (z3, .inl (cI, 7, .inl (fun _ => zI 0))), (z4, .inl (cI, 5, .inl (fun _ => zI 0))), (z5, .inl (cI, 5, .inl (fun _ => zI 0)))] H locs := ⟨hP, hD, hS⟩
  refine lv_aload_n hx hb dX8_init_52 rfl (lv_at hl 0 rfl) ?_
  refine lv_iconst (v := zI 0) hx hb dX8_init_53 rfl ?_
  refine va_put (D := D) (ci := 8) (v := .int (zI 0)) (ty := .int) (C := RX8) (T := TX8) (N := 10) hx hb hts (fun _ h => List.mem_cons_of_mem _ (List.mem_append_right _ h)) tyX8 tyX8_ok nmX8 hown hK hw.1 hw.2.1 hw.2.2 0 rfl rfl 2 (by decide) (hts (.fieldLink RX8 34 "EggThrones$Table" "limit" "I") (List.mem_of_getElem? (i := 12) rfl)) (fun _ h9 => h9) rfl (by decide +kernel) rfl rfl (Nat.le_of_ble_eq_true rfl) dX8_init_54 (fun H locs hP hD hS => ?_)
  have hw : Wd D A s [(h0, .inr (8, [.int (zI 0), .int (zI 0), .int (zI 0), .int (zI 0), .int (zI 0), .ref z1, .ref z2, .ref z3, .ref z4, .ref z5])), (z1, .inl (cI, 7, .inl (fun _ => zI 0))), (z2, .inl (cI, 7, .inl (fun _ => zI 0))), (z3, .inl (cI, 7, .inl (fun _ => zI 0))), (z4, .inl (cI, 5, .inl (fun _ => zI 0))), (z5, .inl (cI, 5, .inl (fun _ => zI 0)))] H locs := ⟨hP, hD, hS⟩
  refine lv_aload_n hx hb dX8_init_57 rfl (lv_at hl 0 rfl) ?_
  refine lv_iconst (v := zI 0) hx hb dX8_init_58 rfl ?_
  refine va_put (D := D) (ci := 8) (v := .int (zI 0)) (ty := .int) (C := RX8) (T := TX8) (N := 10) hx hb hts (fun _ h => List.mem_cons_of_mem _ (List.mem_append_right _ h)) tyX8 tyX8_ok nmX8 hown hK hw.1 hw.2.1 hw.2.2 0 rfl rfl 3 (by decide) (hts (.fieldLink RX8 37 "EggThrones$Table" "eggs" "I") (List.mem_of_getElem? (i := 13) rfl)) (fun _ h9 => h9) rfl (by decide +kernel) rfl rfl (Nat.le_of_ble_eq_true rfl) dX8_init_59 (fun H locs hP hD hS => ?_)
  have hw : Wd D A s [(h0, .inr (8, [.int (zI 0), .int (zI 0), .int (zI 0), .int (zI 0), .int (zI 0), .ref z1, .ref z2, .ref z3, .ref z4, .ref z5])), (z1, .inl (cI, 7, .inl (fun _ => zI 0))), (z2, .inl (cI, 7, .inl (fun _ => zI 0))), (z3, .inl (cI, 7, .inl (fun _ => zI 0))), (z4, .inl (cI, 5, .inl (fun _ => zI 0))), (z5, .inl (cI, 5, .inl (fun _ => zI 0)))] H locs := ⟨hP, hD, hS⟩
  refine lv_aload_n hx hb dX8_init_62 rfl (lv_at hl 0 rfl) ?_
  refine lv_iconst (v := zI 0) hx hb dX8_init_63 rfl ?_
  refine va_put (D := D) (ci := 8) (v := .int (zI 0)) (ty := .int) (C := RX8) (T := TX8) (N := 10) hx hb hts (fun _ h => List.mem_cons_of_mem _ (List.mem_append_right _ h)) tyX8 tyX8_ok nmX8 hown hK hw.1 hw.2.1 hw.2.2 0 rfl rfl 4 (by decide) (hts (.fieldLink RX8 40 "EggThrones$Table" "eaters" "I") (List.mem_of_getElem? (i := 14) rfl)) (fun _ h9 => h9) rfl (by decide +kernel) rfl rfl (Nat.le_of_ble_eq_true rfl) dX8_init_64 (fun H locs hP hD hS => ?_)
  have hw : Wd D A s [(h0, .inr (8, [.int (zI 0), .int (zI 0), .int (zI 0), .int (zI 0), .int (zI 0), .ref z1, .ref z2, .ref z3, .ref z4, .ref z5])), (z1, .inl (cI, 7, .inl (fun _ => zI 0))), (z2, .inl (cI, 7, .inl (fun _ => zI 0))), (z3, .inl (cI, 7, .inl (fun _ => zI 0))), (z4, .inl (cI, 5, .inl (fun _ => zI 0))), (z5, .inl (cI, 5, .inl (fun _ => zI 0)))] H locs := ⟨hP, hD, hS⟩
  rw [hAe] at hw
  exact W.vret hx hb hr (fun t ht hW => ⟨⟨(z1, z2, z3, z4, z5), rfl, trivial, ⟨by rw [ht]; exact hw.1, va_K.moved hW.alike hK, hw.2.1, hN.warm hW⟩⟩, hw.2.2.F ht⟩) hw.2.2.2.2 dX8_init_67 hlk
abbrev rmX9_init : Room := { frames := 1, cells := 1, slots := 240, locals := 12 }
def mkX9 (h0 : Nat) (cI cZ : ClassId) (u : Nat) : va_W := [(h0, .inr (9, [.ref u, .int (zI 0), .int (zI 0), .int (zI 0), .int (zI (-1))])), (u, .inl (cI, 240, .inl (fun _ => zI 0)))]
set_option maxHeartbeats 4000000 in
set_option maxRecDepth 100000 in
theorem tX9_init {l : Launch} {D : va_G} {cI cZ : ClassId} {h0 sz : Nat} : Met l yX9_init wsX9_init rmX9_init (va_Pc [.ref h0] (CXn D (TY cI cZ) sz [(h0, .inr (9, [.null, .int (zI 0), .int (zI 0), .int (zI 0), .int (zI 0)]))])) (QN D (TY cI cZ) sz [(h0, .inr (9, [.null, .int (zI 0), .int (zI 0), .int (zI 0), .int (zI 0)]))] (fun (_ : Nat) => True) (mkX9 h0 cI cZ)) 1 240 (va_A [(h0, .inr (9, [.null, .int (zI 0), .int (zI 0), .int (zI 0), .int (zI 0)]))] sz) := by
  refine opnN (cc := cX9_init) (maxL := 1) rfl (by decide) rfl (Nat.le_of_ble_eq_true rfl) (fun p e s m below meth c C hin hz ls hw hl => ?_)
  obtain ⟨hx, hb, hr, hml, hown, hts, hlk, hK, hN⟩ := id C
  have hl : lv_has ls 1 [(0, .ref h0)] := hl
  have hA : ∀ q : Nat, s.heap.size ≤ q → va_A [(h0, .inr (9, [.null, .int (zI 0), .int (zI 0), .int (zI 0), .int (zI 0)]))] sz q := fun q h => Or.inr (by omega)
  obtain ⟨A, hAe⟩ : ∃ A : Nat → Prop, A = va_A [(h0, .inr (9, [.null, .int (zI 0), .int (zI 0), .int (zI 0), .int (zI 0)]))] sz := ⟨_, rfl⟩
  rw [← hAe] at hw hA
  obtain ⟨H, locs, eH, eL⟩ : ∃ (H : Heap) (locs : List Loc), H = s.heap ∧ locs = [] := ⟨_, _, rfl, rfl⟩
  rw [← eH, ← eL] at hw ⊢
  refine lv_aload_n hx hb dX9_init_0 rfl (lv_at hl 0 rfl) ?_
  refine W.objInit hx hb hown (hts (.methodLink RX9 3 objectInit) (List.mem_of_getElem? (i := 1) rfl)) (hts (.instanceMethod objectInit) (List.mem_of_getElem? (i := 2) rfl)) (hts (.code objectInit ⟨#[0xb1]⟩ 1 none) (List.mem_of_getElem? (i := 3) rfl)) rfl (by rw [hml]; exact hl.1) rfl dX9_init_1 (Nat.le_of_ble_eq_true rfl) (Nat.le_of_ble_eq_true rfl) ?_
  refine W.eq (g2 := F0 m 4 ls []) rfl ?_
  refine lv_aload_n hx hb dX9_init_4 rfl (lv_at hl 0 rfl) ?_
  refine lv_sipush (v := zI 240) hx hb dX9_init_5 (by decide +kernel) ?_
  refine nwI (N := 240) C hA hw (hts (.arrayClass .int) (List.mem_of_getElem? (i := 4) rfl)) (by decide) (by decide) (by decide) dX9_init_8 (fun z1 H hw => ?_)
  have hw : Wd D A s [(h0, .inr (9, [.null, .int (zI 0), .int (zI 0), .int (zI 0), .int (zI 0)])), (z1, .inl (cI, 240, .inl (fun _ => zI 0)))] H locs := hw
  refine W.widen (k := 1) (n := 240) (by decide) (by decide) ?_
  refine va_putF (D := D) (ci := 9) (v := .ref z1) (ty := (.array .int)) (C := RX9) (T := TX9) (N := 5) hx hb hts (fun _ h => List.mem_cons_of_mem _ (List.mem_append_right _ h)) tyX9 tyX9_ok nmX9 hown hK hw.1 hw.2.1 hw.2.2 0 rfl rfl 0 (by decide) (hts (.fieldLink RX9 9 "EggThrones$Text" "letters" "[I") (List.mem_of_getElem? (i := 5) rfl)) (fun _ h9 => h9) rfl hin rfl (by decide +kernel) rfl rfl (Nat.le_of_ble_eq_true rfl) dX9_init_10 (fun H locs hP hD hS => ?_)
  have hw : Wd D A s [(h0, .inr (9, [.ref z1, .int (zI 0), .int (zI 0), .int (zI 0), .int (zI 0)])), (z1, .inl (cI, 240, .inl (fun _ => zI 0)))] H locs := ⟨hP, hD, hS⟩
  refine lv_aload_n hx hb dX9_init_13 rfl (lv_at hl 0 rfl) ?_
  refine lv_iconst (v := zI 0) hx hb dX9_init_14 rfl ?_
  refine va_put (D := D) (ci := 9) (v := .int (zI 0)) (ty := .int) (C := RX9) (T := TX9) (N := 5) hx hb hts (fun _ h => List.mem_cons_of_mem _ (List.mem_append_right _ h)) tyX9 tyX9_ok nmX9 hown hK hw.1 hw.2.1 hw.2.2 0 rfl rfl 1 (by decide) (hts (.fieldLink RX9 15 "EggThrones$Text" "count" "I") (List.mem_of_getElem? (i := 6) rfl)) (fun _ h9 => h9) rfl (by decide +kernel) rfl rfl (Nat.le_of_ble_eq_true rfl) dX9_init_15 (fun H locs hP hD hS => ?_)
  have hw : Wd D A s [(h0, .inr (9, [.ref z1, .int (zI 0), .int (zI 0), .int (zI 0), .int (zI 0)])), (z1, .inl (cI, 240, .inl (fun _ => zI 0)))] H locs := ⟨hP, hD, hS⟩
  refine lv_aload_n hx hb dX9_init_18 rfl (lv_at hl 0 rfl) ?_
  refine lv_iconst (v := zI 0) hx hb dX9_init_19 rfl ?_
  refine va_put (D := D) (ci := 9) (v := .int (zI 0)) (ty := .int) (C := RX9) (T := TX9) (N := 5) hx hb hts (fun _ h => List.mem_cons_of_mem _ (List.mem_append_right _ h)) tyX9 tyX9_ok nmX9 hown hK hw.1 hw.2.1 hw.2.2 0 rfl rfl 2 (by decide) (hts (.fieldLink RX9 19 "EggThrones$Text" "at" "I") (List.mem_of_getElem? (i := 7) rfl)) (fun _ h9 => h9) rfl (by decide +kernel) rfl rfl (Nat.le_of_ble_eq_true rfl) dX9_init_20 (fun H locs hP hD hS => ?_)
  have hw : Wd D A s [(h0, .inr (9, [.ref z1, .int (zI 0), .int (zI 0), .int (zI 0), .int (zI 0)])), (z1, .inl (cI, 240, .inl (fun _ => zI 0)))] H locs := ⟨hP, hD, hS⟩
  refine lv_aload_n hx hb dX9_init_23 rfl (lv_at hl 0 rfl) ?_
  refine lv_iconst (v := zI 0) hx hb dX9_init_24 rfl ?_
  refine va_put (D := D) (ci := 9) (v := .int (zI 0)) (ty := .int) (C := RX9) (T := TX9) (N := 5) hx hb hts (fun _ h => List.mem_cons_of_mem _ (List.mem_append_right _ h)) tyX9 tyX9_ok nmX9 hown hK hw.1 hw.2.1 hw.2.2 0 rfl rfl 3 (by decide) (hts (.fieldLink RX9 22 "EggThrones$Text" "faultNumber" "I") (List.mem_of_getElem? (i := 8) rfl)) (fun _ h9 => h9) rfl (by decide +kernel) rfl rfl (Nat.le_of_ble_eq_true rfl) dX9_init_25 (fun H locs hP hD hS => ?_)
  have hw : Wd D A s [(h0, .inr (9, [.ref z1, .int (zI 0), .int (zI 0), .int (zI 0), .int (zI 0)])), (z1, .inl (cI, 240, .inl (fun _ => zI 0)))] H locs := ⟨hP, hD, hS⟩
  refine lv_aload_n hx hb dX9_init_28 rfl (lv_at hl 0 rfl) ?_
  refine lv_iconst (v := zI (-1)) hx hb dX9_init_29 rfl ?_
  refine va_put (D := D) (ci := 9) (v := .int (zI (-1))) (ty := .int) (C := RX9) (T := TX9) (N := 5) hx hb hts (fun _ h => List.mem_cons_of_mem _ (List.mem_append_right _ h)) tyX9 tyX9_ok nmX9 hown hK hw.1 hw.2.1 hw.2.2 0 rfl rfl 4 (by decide) (hts (.fieldLink RX9 25 "EggThrones$Text" "faultAt" "I") (List.mem_of_getElem? (i := 9) rfl)) (fun _ h9 => h9) rfl (by decide +kernel) rfl rfl (Nat.le_of_ble_eq_true rfl) dX9_init_30 (fun H locs hP hD hS => ?_)
  have hw : Wd D A s [(h0, .inr (9, [.ref z1, .int (zI 0), .int (zI 0), .int (zI 0), .int (zI (-1))])), (z1, .inl (cI, 240, .inl (fun _ => zI 0)))] H locs := ⟨hP, hD, hS⟩
  rw [hAe] at hw
  exact W.vret hx hb hr (fun t ht hW => ⟨⟨(z1), rfl, trivial, ⟨by rw [ht]; exact hw.1, va_K.moved hW.alike hK, hw.2.1, hN.warm hW⟩⟩, hw.2.2.F ht⟩) hw.2.2.2.2 dX9_init_33 hlk
abbrev rmX4_init : Room := { frames := 1, cells := 2, slots := 14, locals := 12 }
def mkX4 (h0 a1 : Nat) (cI cZ : ClassId) (u : Nat × Nat) : va_W := [(h0, .inr (4, [.ref a1, .ref (u.1), .ref (u.2), .int (zI (-1)), .int (zI 0), .int (zI 0), .int (zI 0), .int (zI 0), .int (zI 0)])), ((u.1), .inl (cI, 7, .inl (fun _ => zI 0))), ((u.2), .inl (cI, 7, .inl (fun _ => zI 0)))]
set_option maxHeartbeats 4000000 in
set_option maxRecDepth 100000 in
theorem tX4_init {l : Launch} {D : va_G} {cI cZ : ClassId} {h0 a1 sz : Nat} : Met l yX4_init wsX4_init rmX4_init (va_Pc [.ref h0, .ref a1] (CXn D (TY cI cZ) sz [(h0, .inr (4, [.null, .null, .null, .int (zI 0), .int (zI 0), .int (zI 0), .int (zI 0), .int (zI 0), .int (zI 0)]))])) (QN D (TY cI cZ) sz [(h0, .inr (4, [.null, .null, .null, .int (zI 0), .int (zI 0), .int (zI 0), .int (zI 0), .int (zI 0), .int (zI 0)]))] (fun (_ : Nat × Nat) => True) (mkX4 h0 a1 cI cZ)) 2 14 (va_A [(h0, .inr (4, [.null, .null, .null, .int (zI 0), .int (zI 0), .int (zI 0), .int (zI 0), .int (zI 0), .int (zI 0)]))] sz) := by
  refine opnN (cc := cX4_init) (maxL := 2) rfl (by decide) rfl (Nat.le_of_ble_eq_true rfl) (fun p e s m below meth c C hin hz ls hw hl => ?_)
  obtain ⟨hx, hb, hr, hml, hown, hts, hlk, hK, hN⟩ := id C
  have hl : lv_has ls 2 [(0, .ref h0), (1, .ref a1)] := hl
  have hA : ∀ q : Nat, s.heap.size ≤ q → va_A [(h0, .inr (4, [.null, .null, .null, .int (zI 0), .int (zI 0), .int (zI 0), .int (zI 0), .int (zI 0), .int (zI 0)]))] sz q := fun q h => Or.inr (by omega)
  obtain ⟨A, hAe⟩ : ∃ A : Nat → Prop, A = va_A [(h0, .inr (4, [.null, .null, .null, .int (zI 0), .int (zI 0), .int (zI 0), .int (zI 0), .int (zI 0), .int (zI 0)]))] sz := ⟨_, rfl⟩
  rw [← hAe] at hw hA
  obtain ⟨H, locs, eH, eL⟩ : ∃ (H : Heap) (locs : List Loc), H = s.heap ∧ locs = [] := ⟨_, _, rfl, rfl⟩
  rw [← eH, ← eL] at hw ⊢
  refine lv_aload_n hx hb dX4_init_0 rfl (lv_at hl 0 rfl) ?_
  refine W.objInit hx hb hown (hts (.methodLink RX4 3 objectInit) (List.mem_of_getElem? (i := 1) rfl)) (hts (.instanceMethod objectInit) (List.mem_of_getElem? (i := 2) rfl)) (hts (.code objectInit ⟨#[0xb1]⟩ 1 none) (List.mem_of_getElem? (i := 3) rfl)) rfl (by rw [hml]; exact hl.1) rfl dX4_init_1 (Nat.le_of_ble_eq_true rfl) (Nat.le_of_ble_eq_true rfl) ?_
  refine W.eq (g2 := F0 m 4 ls []) rfl ?_
  refine lv_aload_n hx hb dX4_init_4 rfl (lv_at hl 0 rfl) ?_
  refine lv_aload_n hx hb dX4_init_5 rfl (lv_at hl 1 rfl) ?_
  refine va_putF (D := D) (ci := 4) (v := .ref a1) (ty := (.object "EggThrones$Table")) (C := RX4) (T := TX4) (N := 9) hx hb hts (fun _ h => List.mem_cons_of_mem _ (List.mem_append_right _ h)) tyX4 tyX4_ok nmX4 hown hK hw.1 hw.2.1 hw.2.2 0 rfl rfl 0 (by decide) (hts (.fieldLink RX4 9 "EggThrones$Morning" "table" "LEggThrones$Table;") (List.mem_of_getElem? (i := 4) rfl)) (fun _ h9 => h9) rfl hin rfl (by decide +kernel) rfl rfl (Nat.le_of_ble_eq_true rfl) dX4_init_6 (fun H locs hP hD hS => ?_)
  have hw : Wd D A s [(h0, .inr (4, [.ref a1, .null, .null, .int (zI 0), .int (zI 0), .int (zI 0), .int (zI 0), .int (zI 0), .int (zI 0)]))] H locs := ⟨hP, hD, hS⟩
  refine lv_aload_n hx hb dX4_init_9 rfl (lv_at hl 0 rfl) ?_
  refine lv_bipush (v := zI 7) hx hb dX4_init_10 (by decide +kernel) ?_
  refine nwI (N := 7) C hA hw (hts (.arrayClass .int) (List.mem_of_getElem? (i := 5) rfl)) (by decide) (by decide) (by decide) dX4_init_12 (fun z1 H hw => ?_)
  have hw : Wd D A s [(h0, .inr (4, [.ref a1, .null, .null, .int (zI 0), .int (zI 0), .int (zI 0), .int (zI 0), .int (zI 0), .int (zI 0)])), (z1, .inl (cI, 7, .inl (fun _ => zI 0)))] H locs := hw
  refine W.widen (k := 1) (n := 7) (by decide) (by decide) ?_
  refine va_putF (D := D) (ci := 4) (v := .ref z1) (ty := (.array .int)) (C := RX4) (T := TX4) (N := 9) hx hb hts (fun _ h => List.mem_cons_of_mem _ (List.mem_append_right _ h)) tyX4 tyX4_ok nmX4 hown hK hw.1 hw.2.1 hw.2.2 0 rfl rfl 1 (by decide) (hts (.fieldLink RX4 15 "EggThrones$Morning" "states" "[I") (List.mem_of_getElem? (i := 6) rfl)) (fun _ h9 => h9) rfl hin rfl (by decide +kernel) rfl rfl (Nat.le_of_ble_eq_true rfl) dX4_init_14 (fun H locs hP hD hS => ?_)
  have hw : Wd D A s [(h0, .inr (4, [.ref a1, .ref z1, .null, .int (zI 0), .int (zI 0), .int (zI 0), .int (zI 0), .int (zI 0), .int (zI 0)])), (z1, .inl (cI, 7, .inl (fun _ => zI 0)))] H locs := ⟨hP, hD, hS⟩
  refine lv_aload_n hx hb dX4_init_17 rfl (lv_at hl 0 rfl) ?_
  refine lv_bipush (v := zI 7) hx hb dX4_init_18 (by decide +kernel) ?_
  refine nwI (N := 7) C hA hw (hts (.arrayClass .int) (List.mem_of_getElem? (i := 5) rfl)) (by decide) (by decide) (by decide) dX4_init_20 (fun z2 H hw => ?_)
  have hw : Wd D A s [(h0, .inr (4, [.ref a1, .ref z1, .null, .int (zI 0), .int (zI 0), .int (zI 0), .int (zI 0), .int (zI 0), .int (zI 0)])), (z1, .inl (cI, 7, .inl (fun _ => zI 0))), (z2, .inl (cI, 7, .inl (fun _ => zI 0)))] H locs := hw
  refine W.widen (k := 2) (n := 14) (by decide) (by decide) ?_
  refine va_putF (D := D) (ci := 4) (v := .ref z2) (ty := (.array .int)) (C := RX4) (T := TX4) (N := 9) hx hb hts (fun _ h => List.mem_cons_of_mem _ (List.mem_append_right _ h)) tyX4 tyX4_ok nmX4 hown hK hw.1 hw.2.1 hw.2.2 0 rfl rfl 2 (by decide) (hts (.fieldLink RX4 19 "EggThrones$Morning" "boiled" "[I") (List.mem_of_getElem? (i := 7) rfl)) (fun _ h9 => h9) rfl hin rfl (by decide +kernel) rfl rfl (Nat.le_of_ble_eq_true rfl) dX4_init_22 (fun H locs hP hD hS => ?_)
  have hw : Wd D A s [(h0, .inr (4, [.ref a1, .ref z1, .ref z2, .int (zI 0), .int (zI 0), .int (zI 0), .int (zI 0), .int (zI 0), .int (zI 0)])), (z1, .inl (cI, 7, .inl (fun _ => zI 0))), (z2, .inl (cI, 7, .inl (fun _ => zI 0)))] H locs := ⟨hP, hD, hS⟩
  refine lv_aload_n hx hb dX4_init_25 rfl (lv_at hl 0 rfl) ?_
  refine lv_iconst (v := zI (-1)) hx hb dX4_init_26 rfl ?_
  refine va_put (D := D) (ci := 4) (v := .int (zI (-1))) (ty := .int) (C := RX4) (T := TX4) (N := 9) hx hb hts (fun _ h => List.mem_cons_of_mem _ (List.mem_append_right _ h)) tyX4 tyX4_ok nmX4 hown hK hw.1 hw.2.1 hw.2.2 0 rfl rfl 3 (by decide) (hts (.fieldLink RX4 22 "EggThrones$Morning" "king" "I") (List.mem_of_getElem? (i := 8) rfl)) (fun _ h9 => h9) rfl (by decide +kernel) rfl rfl (Nat.le_of_ble_eq_true rfl) dX4_init_27 (fun H locs hP hD hS => ?_)
  have hw : Wd D A s [(h0, .inr (4, [.ref a1, .ref z1, .ref z2, .int (zI (-1)), .int (zI 0), .int (zI 0), .int (zI 0), .int (zI 0), .int (zI 0)])), (z1, .inl (cI, 7, .inl (fun _ => zI 0))), (z2, .inl (cI, 7, .inl (fun _ => zI 0)))] H locs := ⟨hP, hD, hS⟩
  refine lv_aload_n hx hb dX4_init_30 rfl (lv_at hl 0 rfl) ?_
  refine lv_iconst (v := zI 0) hx hb dX4_init_31 rfl ?_
  refine va_put (D := D) (ci := 4) (v := .int (zI 0)) (ty := .int) (C := RX4) (T := TX4) (N := 9) hx hb hts (fun _ h => List.mem_cons_of_mem _ (List.mem_append_right _ h)) tyX4 tyX4_ok nmX4 hown hK hw.1 hw.2.1 hw.2.2 0 rfl rfl 4 (by decide) (hts (.fieldLink RX4 26 "EggThrones$Morning" "left" "I") (List.mem_of_getElem? (i := 9) rfl)) (fun _ h9 => h9) rfl (by decide +kernel) rfl rfl (Nat.le_of_ble_eq_true rfl) dX4_init_32 (fun H locs hP hD hS => ?_)
  have hw : Wd D A s [(h0, .inr (4, [.ref a1, .ref z1, .ref z2, .int (zI (-1)), .int (zI 0), .int (zI 0), .int (zI 0), .int (zI 0), .int (zI 0)])), (z1, .inl (cI, 7, .inl (fun _ => zI 0))), (z2, .inl (cI, 7, .inl (fun _ => zI 0)))] H locs := ⟨hP, hD, hS⟩
  refine lv_aload_n hx hb dX4_init_35 rfl (lv_at hl 0 rfl) ?_
  refine lv_iconst (v := zI 0) hx hb dX4_init_36 rfl ?_
  refine va_put (D := D) (ci := 4) (v := .int (zI 0)) (ty := .int) (C := RX4) (T := TX4) (N := 9) hx hb hts (fun _ h => List.mem_cons_of_mem _ (List.mem_append_right _ h)) tyX4 tyX4_ok nmX4 hown hK hw.1 hw.2.1 hw.2.2 0 rfl rfl 5 (by decide) (hts (.fieldLink RX4 29 "EggThrones$Morning" "soldiers" "I") (List.mem_of_getElem? (i := 10) rfl)) (fun _ h9 => h9) rfl (by decide +kernel) rfl rfl (Nat.le_of_ble_eq_true rfl) dX4_init_37 (fun H locs hP hD hS => ?_)
  have hw : Wd D A s [(h0, .inr (4, [.ref a1, .ref z1, .ref z2, .int (zI (-1)), .int (zI 0), .int (zI 0), .int (zI 0), .int (zI 0), .int (zI 0)])), (z1, .inl (cI, 7, .inl (fun _ => zI 0))), (z2, .inl (cI, 7, .inl (fun _ => zI 0)))] H locs := ⟨hP, hD, hS⟩
  refine lv_aload_n hx hb dX4_init_40 rfl (lv_at hl 0 rfl) ?_
  refine lv_iconst (v := zI 0) hx hb dX4_init_41 rfl ?_
  refine va_put (D := D) (ci := 4) (v := .int (zI 0)) (ty := .int) (C := RX4) (T := TX4) (N := 9) hx hb hts (fun _ h => List.mem_cons_of_mem _ (List.mem_append_right _ h)) tyX4 tyX4_ok nmX4 hown hK hw.1 hw.2.1 hw.2.2 0 rfl rfl 6 (by decide) (hts (.fieldLink RX4 32 "EggThrones$Morning" "minutes" "I") (List.mem_of_getElem? (i := 11) rfl)) (fun _ h9 => h9) rfl (by decide +kernel) rfl rfl (Nat.le_of_ble_eq_true rfl) dX4_init_42 (fun H locs hP hD hS => ?_)
  have hw : Wd D A s [(h0, .inr (4, [.ref a1, .ref z1, .ref z2, .int (zI (-1)), .int (zI 0), .int (zI 0), .int (zI 0), .int (zI 0), .int (zI 0)])), (z1, .inl (cI, 7, .inl (fun _ => zI 0))), (z2, .inl (cI, 7, .inl (fun _ => zI 0)))] H locs := ⟨hP, hD, hS⟩
  refine lv_aload_n hx hb dX4_init_45 rfl (lv_at hl 0 rfl) ?_
  refine lv_iconst (v := zI 0) hx hb dX4_init_46 rfl ?_
  refine va_put (D := D) (ci := 4) (v := .int (zI 0)) (ty := .int) (C := RX4) (T := TX4) (N := 9) hx hb hts (fun _ h => List.mem_cons_of_mem _ (List.mem_append_right _ h)) tyX4 tyX4_ok nmX4 hown hK hw.1 hw.2.1 hw.2.2 0 rfl rfl 7 (by decide) (hts (.fieldLink RX4 35 "EggThrones$Morning" "reigned" "I") (List.mem_of_getElem? (i := 12) rfl)) (fun _ h9 => h9) rfl (by decide +kernel) rfl rfl (Nat.le_of_ble_eq_true rfl) dX4_init_47 (fun H locs hP hD hS => ?_)
  have hw : Wd D A s [(h0, .inr (4, [.ref a1, .ref z1, .ref z2, .int (zI (-1)), .int (zI 0), .int (zI 0), .int (zI 0), .int (zI 0), .int (zI 0)])), (z1, .inl (cI, 7, .inl (fun _ => zI 0))), (z2, .inl (cI, 7, .inl (fun _ => zI 0)))] H locs := ⟨hP, hD, hS⟩
  refine lv_aload_n hx hb dX4_init_50 rfl (lv_at hl 0 rfl) ?_
  refine lv_iconst (v := zI 0) hx hb dX4_init_51 rfl ?_
  refine va_put (D := D) (ci := 4) (v := .int (zI 0)) (ty := .int) (C := RX4) (T := TX4) (N := 9) hx hb hts (fun _ h => List.mem_cons_of_mem _ (List.mem_append_right _ h)) tyX4 tyX4_ok nmX4 hown hK hw.1 hw.2.1 hw.2.2 0 rfl rfl 8 (by decide) (hts (.fieldLink RX4 38 "EggThrones$Morning" "scraped" "I") (List.mem_of_getElem? (i := 13) rfl)) (fun _ h9 => h9) rfl (by decide +kernel) rfl rfl (Nat.le_of_ble_eq_true rfl) dX4_init_52 (fun H locs hP hD hS => ?_)
  have hw : Wd D A s [(h0, .inr (4, [.ref a1, .ref z1, .ref z2, .int (zI (-1)), .int (zI 0), .int (zI 0), .int (zI 0), .int (zI 0), .int (zI 0)])), (z1, .inl (cI, 7, .inl (fun _ => zI 0))), (z2, .inl (cI, 7, .inl (fun _ => zI 0)))] H locs := ⟨hP, hD, hS⟩
  rw [hAe] at hw
  exact W.vret hx hb hr (fun t ht hW => ⟨⟨(z1, z2), rfl, trivial, ⟨by rw [ht]; exact hw.1, va_K.moved hW.alike hK, hw.2.1, hN.warm hW⟩⟩, hw.2.2.F ht⟩) hw.2.2.2.2 dX4_init_55 hlk
abbrev rmX5_init : Room := { frames := 1, cells := 1, slots := 400, locals := 12 }
def mkX5 (h0 : Nat) (cI cZ : ClassId) (u : Nat) : va_W := [(h0, .inr (5, [.ref u, .int (zI 0), .int (zI 0)])), (u, .inl (cI, 400, .inl (fun _ => zI 0)))]
set_option maxHeartbeats 4000000 in
set_option maxRecDepth 100000 in
theorem tX5_init {l : Launch} {D : va_G} {cI cZ : ClassId} {h0 sz : Nat} : Met l yX5_init wsX5_init rmX5_init (va_Pc [.ref h0] (CXn D (TY cI cZ) sz [(h0, .inr (5, [.null, .int (zI 0), .int (zI 0)]))])) (QN D (TY cI cZ) sz [(h0, .inr (5, [.null, .int (zI 0), .int (zI 0)]))] (fun (_ : Nat) => True) (mkX5 h0 cI cZ)) 1 400 (va_A [(h0, .inr (5, [.null, .int (zI 0), .int (zI 0)]))] sz) := by
  refine opnN (cc := cX5_init) (maxL := 1) rfl (by decide) rfl (Nat.le_of_ble_eq_true rfl) (fun p e s m below meth c C hin hz ls hw hl => ?_)
  obtain ⟨hx, hb, hr, hml, hown, hts, hlk, hK, hN⟩ := id C
  have hl : lv_has ls 1 [(0, .ref h0)] := hl
  have hA : ∀ q : Nat, s.heap.size ≤ q → va_A [(h0, .inr (5, [.null, .int (zI 0), .int (zI 0)]))] sz q := fun q h => Or.inr (by omega)
  obtain ⟨A, hAe⟩ : ∃ A : Nat → Prop, A = va_A [(h0, .inr (5, [.null, .int (zI 0), .int (zI 0)]))] sz := ⟨_, rfl⟩
  rw [← hAe] at hw hA
  obtain ⟨H, locs, eH, eL⟩ : ∃ (H : Heap) (locs : List Loc), H = s.heap ∧ locs = [] := ⟨_, _, rfl, rfl⟩
  rw [← eH, ← eL] at hw ⊢
  refine lv_aload_n hx hb dX5_init_0 rfl (lv_at hl 0 rfl) ?_
  refine W.objInit hx hb hown (hts (.methodLink RX5 3 objectInit) (List.mem_of_getElem? (i := 1) rfl)) (hts (.instanceMethod objectInit) (List.mem_of_getElem? (i := 2) rfl)) (hts (.code objectInit ⟨#[0xb1]⟩ 1 none) (List.mem_of_getElem? (i := 3) rfl)) rfl (by rw [hml]; exact hl.1) rfl dX5_init_1 (Nat.le_of_ble_eq_true rfl) (Nat.le_of_ble_eq_true rfl) ?_
  refine W.eq (g2 := F0 m 4 ls []) rfl ?_
  refine lv_aload_n hx hb dX5_init_4 rfl (lv_at hl 0 rfl) ?_
  refine lv_sipush (v := zI 400) hx hb dX5_init_5 (by decide +kernel) ?_
  refine nwI (N := 400) C hA hw (hts (.arrayClass .int) (List.mem_of_getElem? (i := 4) rfl)) (by decide) (by decide) (by decide) dX5_init_8 (fun z1 H hw => ?_)
  have hw : Wd D A s [(h0, .inr (5, [.null, .int (zI 0), .int (zI 0)])), (z1, .inl (cI, 400, .inl (fun _ => zI 0)))] H locs := hw
  refine W.widen (k := 1) (n := 400) (by decide) (by decide) ?_
  refine va_putF (D := D) (ci := 5) (v := .ref z1) (ty := (.array .int)) (C := RX5) (T := TX5) (N := 3) hx hb hts (fun _ h => List.mem_cons_of_mem _ (List.mem_append_right _ h)) tyX5 tyX5_ok nmX5 hown hK hw.1 hw.2.1 hw.2.2 0 rfl rfl 0 (by decide) (hts (.fieldLink RX5 11 "EggThrones$Past" "rows" "[I") (List.mem_of_getElem? (i := 5) rfl)) (fun _ h9 => h9) rfl hin rfl (by decide +kernel) rfl rfl (Nat.le_of_ble_eq_true rfl) dX5_init_10 (fun H locs hP hD hS => ?_)
  have hw : Wd D A s [(h0, .inr (5, [.ref z1, .int (zI 0), .int (zI 0)])), (z1, .inl (cI, 400, .inl (fun _ => zI 0)))] H locs := ⟨hP, hD, hS⟩
  refine lv_aload_n hx hb dX5_init_13 rfl (lv_at hl 0 rfl) ?_
  refine lv_iconst (v := zI 0) hx hb dX5_init_14 rfl ?_
  refine va_put (D := D) (ci := 5) (v := .int (zI 0)) (ty := .int) (C := RX5) (T := TX5) (N := 3) hx hb hts (fun _ h => List.mem_cons_of_mem _ (List.mem_append_right _ h)) tyX5 tyX5_ok nmX5 hown hK hw.1 hw.2.1 hw.2.2 0 rfl rfl 1 (by decide) (hts (.fieldLink RX5 17 "EggThrones$Past" "oldest" "I") (List.mem_of_getElem? (i := 6) rfl)) (fun _ h9 => h9) rfl (by decide +kernel) rfl rfl (Nat.le_of_ble_eq_true rfl) dX5_init_15 (fun H locs hP hD hS => ?_)
  have hw : Wd D A s [(h0, .inr (5, [.ref z1, .int (zI 0), .int (zI 0)])), (z1, .inl (cI, 400, .inl (fun _ => zI 0)))] H locs := ⟨hP, hD, hS⟩
  refine lv_aload_n hx hb dX5_init_18 rfl (lv_at hl 0 rfl) ?_
  refine lv_iconst (v := zI 0) hx hb dX5_init_19 rfl ?_
  refine va_put (D := D) (ci := 5) (v := .int (zI 0)) (ty := .int) (C := RX5) (T := TX5) (N := 3) hx hb hts (fun _ h => List.mem_cons_of_mem _ (List.mem_append_right _ h)) tyX5 tyX5_ok nmX5 hown hK hw.1 hw.2.1 hw.2.2 0 rfl rfl 2 (by decide) (hts (.fieldLink RX5 21 "EggThrones$Past" "count" "I") (List.mem_of_getElem? (i := 7) rfl)) (fun _ h9 => h9) rfl (by decide +kernel) rfl rfl (Nat.le_of_ble_eq_true rfl) dX5_init_20 (fun H locs hP hD hS => ?_)
  have hw : Wd D A s [(h0, .inr (5, [.ref z1, .int (zI 0), .int (zI 0)])), (z1, .inl (cI, 400, .inl (fun _ => zI 0)))] H locs := ⟨hP, hD, hS⟩
  rw [hAe] at hw
  exact W.vret hx hb hr (fun t ht hW => ⟨⟨(z1), rfl, trivial, ⟨by rw [ht]; exact hw.1, va_K.moved hW.alike hK, hw.2.1, hN.warm hW⟩⟩, hw.2.2.F ht⟩) hw.2.2.2.2 dX5_init_23 hlk
abbrev rmX3_init : Room := { frames := 1, cells := 3, slots := 44, locals := 12 }
def mkX3 (h0 : Nat) (cI cZ : ClassId) (u : Nat × Nat × Nat) : va_W := [(h0, .inr (3, [.ref (u.1), .ref (u.2.1), .ref (u.2.2)])), ((u.1), .inl (cI, 40, .inl (fun _ => zI 0))), ((u.2.1), .inl (cI, 2, .inl (fun _ => zI 0))), ((u.2.2), .inl (cZ, 2, .inl (fun _ => zI 0)))]
set_option maxHeartbeats 4000000 in
set_option maxRecDepth 100000 in
theorem tX3_init {l : Launch} {D : va_G} {cI cZ : ClassId} {h0 sz : Nat} : Met l yX3_init wsX3_init rmX3_init (va_Pc [.ref h0] (CXn D (TY cI cZ) sz [(h0, .inr (3, [.null, .null, .null]))])) (QN D (TY cI cZ) sz [(h0, .inr (3, [.null, .null, .null]))] (fun (_ : Nat × Nat × Nat) => True) (mkX3 h0 cI cZ)) 3 44 (va_A [(h0, .inr (3, [.null, .null, .null]))] sz) := by
  refine opnN (cc := cX3_init) (maxL := 1) rfl (by decide) rfl (Nat.le_of_ble_eq_true rfl) (fun p e s m below meth c C hin hz ls hw hl => ?_)
  obtain ⟨hx, hb, hr, hml, hown, hts, hlk, hK, hN⟩ := id C
  have hl : lv_has ls 1 [(0, .ref h0)] := hl
  have hA : ∀ q : Nat, s.heap.size ≤ q → va_A [(h0, .inr (3, [.null, .null, .null]))] sz q := fun q h => Or.inr (by omega)
  obtain ⟨A, hAe⟩ : ∃ A : Nat → Prop, A = va_A [(h0, .inr (3, [.null, .null, .null]))] sz := ⟨_, rfl⟩
  rw [← hAe] at hw hA
  obtain ⟨H, locs, eH, eL⟩ : ∃ (H : Heap) (locs : List Loc), H = s.heap ∧ locs = [] := ⟨_, _, rfl, rfl⟩
  rw [← eH, ← eL] at hw ⊢
  refine lv_aload_n hx hb dX3_init_0 rfl (lv_at hl 0 rfl) ?_
  refine W.objInit hx hb hown (hts (.methodLink RX3 3 objectInit) (List.mem_of_getElem? (i := 1) rfl)) (hts (.instanceMethod objectInit) (List.mem_of_getElem? (i := 2) rfl)) (hts (.code objectInit ⟨#[0xb1]⟩ 1 none) (List.mem_of_getElem? (i := 3) rfl)) rfl (by rw [hml]; exact hl.1) rfl dX3_init_1 (Nat.le_of_ble_eq_true rfl) (Nat.le_of_ble_eq_true rfl) ?_
  refine W.eq (g2 := F0 m 4 ls []) rfl ?_
  refine lv_aload_n hx hb dX3_init_4 rfl (lv_at hl 0 rfl) ?_
  refine lv_bipush (v := zI 40) hx hb dX3_init_5 (by decide +kernel) ?_
  refine nwI (N := 40) C hA hw (hts (.arrayClass .int) (List.mem_of_getElem? (i := 4) rfl)) (by decide) (by decide) (by decide) dX3_init_7 (fun z1 H hw => ?_)
  have hw : Wd D A s [(h0, .inr (3, [.null, .null, .null])), (z1, .inl (cI, 40, .inl (fun _ => zI 0)))] H locs := hw
  refine W.widen (k := 1) (n := 40) (by decide) (by decide) ?_
  refine va_putF (D := D) (ci := 3) (v := .ref z1) (ty := (.array .int)) (C := RX3) (T := TX3) (N := 3) hx hb hts (fun _ h => List.mem_cons_of_mem _ (List.mem_append_right _ h)) tyX3 tyX3_ok nmX3 hown hK hw.1 hw.2.1 hw.2.2 0 rfl rfl 0 (by decide) (hts (.fieldLink RX3 11 "EggThrones$Images" "rows" "[I") (List.mem_of_getElem? (i := 5) rfl)) (fun _ h9 => h9) rfl hin rfl (by decide +kernel) rfl rfl (Nat.le_of_ble_eq_true rfl) dX3_init_9 (fun H locs hP hD hS => ?_)
  have hw : Wd D A s [(h0, .inr (3, [.ref z1, .null, .null])), (z1, .inl (cI, 40, .inl (fun _ => zI 0)))] H locs := ⟨hP, hD, hS⟩
  refine lv_aload_n hx hb dX3_init_12 rfl (lv_at hl 0 rfl) ?_
  refine lv_iconst (v := zI 2) hx hb dX3_init_13 rfl ?_
  refine nwI (N := 2) C hA hw (hts (.arrayClass .int) (List.mem_of_getElem? (i := 4) rfl)) (by decide) (by decide) (by decide) dX3_init_14 (fun z2 H hw => ?_)
  have hw : Wd D A s [(h0, .inr (3, [.ref z1, .null, .null])), (z1, .inl (cI, 40, .inl (fun _ => zI 0))), (z2, .inl (cI, 2, .inl (fun _ => zI 0)))] H locs := hw
  refine W.widen (k := 2) (n := 42) (by decide) (by decide) ?_
  refine va_putF (D := D) (ci := 3) (v := .ref z2) (ty := (.array .int)) (C := RX3) (T := TX3) (N := 3) hx hb hts (fun _ h => List.mem_cons_of_mem _ (List.mem_append_right _ h)) tyX3 tyX3_ok nmX3 hown hK hw.1 hw.2.1 hw.2.2 0 rfl rfl 1 (by decide) (hts (.fieldLink RX3 17 "EggThrones$Images" "seeds" "[I") (List.mem_of_getElem? (i := 6) rfl)) (fun _ h9 => h9) rfl hin rfl (by decide +kernel) rfl rfl (Nat.le_of_ble_eq_true rfl) dX3_init_16 (fun H locs hP hD hS => ?_)
  have hw : Wd D A s [(h0, .inr (3, [.ref z1, .ref z2, .null])), (z1, .inl (cI, 40, .inl (fun _ => zI 0))), (z2, .inl (cI, 2, .inl (fun _ => zI 0)))] H locs := ⟨hP, hD, hS⟩
  refine lv_aload_n hx hb dX3_init_19 rfl (lv_at hl 0 rfl) ?_
  refine lv_iconst (v := zI 2) hx hb dX3_init_20 rfl ?_
  refine nwZ (N := 2) C hA hw (hts (.arrayClass .boolean) (List.mem_of_getElem? (i := 7) rfl)) (by decide) (by decide) (by decide) dX3_init_21 (fun z3 H hw => ?_)
  have hw : Wd D A s [(h0, .inr (3, [.ref z1, .ref z2, .null])), (z1, .inl (cI, 40, .inl (fun _ => zI 0))), (z2, .inl (cI, 2, .inl (fun _ => zI 0))), (z3, .inl (cZ, 2, .inl (fun _ => zI 0)))] H locs := hw
  refine W.widen (k := 3) (n := 44) (by decide) (by decide) ?_
  refine va_putF (D := D) (ci := 3) (v := .ref z3) (ty := (.array .boolean)) (C := RX3) (T := TX3) (N := 3) hx hb hts (fun _ h => List.mem_cons_of_mem _ (List.mem_append_right _ h)) tyX3 tyX3_ok nmX3 hown hK hw.1 hw.2.1 hw.2.2 0 rfl rfl 2 (by decide) (hts (.fieldLink RX3 20 "EggThrones$Images" "taken" "[Z") (List.mem_of_getElem? (i := 8) rfl)) (fun _ h9 => h9) rfl hin rfl (by decide +kernel) rfl rfl (Nat.le_of_ble_eq_true rfl) dX3_init_23 (fun H locs hP hD hS => ?_)
  have hw : Wd D A s [(h0, .inr (3, [.ref z1, .ref z2, .ref z3])), (z1, .inl (cI, 40, .inl (fun _ => zI 0))), (z2, .inl (cI, 2, .inl (fun _ => zI 0))), (z3, .inl (cZ, 2, .inl (fun _ => zI 0)))] H locs := ⟨hP, hD, hS⟩
  rw [hAe] at hw
  exact W.vret hx hb hr (fun t ht hW => ⟨⟨(z1, z2, z3), rfl, trivial, ⟨by rw [ht]; exact hw.1, va_K.moved hW.alike hK, hw.2.1, hN.warm hW⟩⟩, hw.2.2.F ht⟩) hw.2.2.2.2 dX3_init_26 hlk
abbrev rmX2_init : Room := { frames := 1, cells := 2, slots := 12, locals := 12 }
def mkX2 (h0 : Nat) (cI cZ : ClassId) (u : Nat × Nat) : va_W := [(h0, .inr (2, [.ref (u.1), .ref (u.2), .int (zI 0)])), ((u.1), .inl (cI, 6, .inl (fun _ => zI 0))), ((u.2), .inl (cI, 6, .inl (fun _ => zI 0)))]
set_option maxHeartbeats 4000000 in
set_option maxRecDepth 100000 in
theorem tX2_init {l : Launch} {D : va_G} {cI cZ : ClassId} {h0 sz : Nat} : Met l yX2_init wsX2_init rmX2_init (va_Pc [.ref h0] (CXn D (TY cI cZ) sz [(h0, .inr (2, [.null, .null, .int (zI 0)]))])) (QN D (TY cI cZ) sz [(h0, .inr (2, [.null, .null, .int (zI 0)]))] (fun (_ : Nat × Nat) => True) (mkX2 h0 cI cZ)) 2 12 (va_A [(h0, .inr (2, [.null, .null, .int (zI 0)]))] sz) := by
  refine opnN (cc := cX2_init) (maxL := 1) rfl (by decide) rfl (Nat.le_of_ble_eq_true rfl) (fun p e s m below meth c C hin hz ls hw hl => ?_)
  obtain ⟨hx, hb, hr, hml, hown, hts, hlk, hK, hN⟩ := id C
  have hl : lv_has ls 1 [(0, .ref h0)] := hl
  have hA : ∀ q : Nat, s.heap.size ≤ q → va_A [(h0, .inr (2, [.null, .null, .int (zI 0)]))] sz q := fun q h => Or.inr (by omega)
  obtain ⟨A, hAe⟩ : ∃ A : Nat → Prop, A = va_A [(h0, .inr (2, [.null, .null, .int (zI 0)]))] sz := ⟨_, rfl⟩
  rw [← hAe] at hw hA
  obtain ⟨H, locs, eH, eL⟩ : ∃ (H : Heap) (locs : List Loc), H = s.heap ∧ locs = [] := ⟨_, _, rfl, rfl⟩
  rw [← eH, ← eL] at hw ⊢
  refine lv_aload_n hx hb dX2_init_0 rfl (lv_at hl 0 rfl) ?_
  refine W.objInit hx hb hown (hts (.methodLink RX2 3 objectInit) (List.mem_of_getElem? (i := 1) rfl)) (hts (.instanceMethod objectInit) (List.mem_of_getElem? (i := 2) rfl)) (hts (.code objectInit ⟨#[0xb1]⟩ 1 none) (List.mem_of_getElem? (i := 3) rfl)) rfl (by rw [hml]; exact hl.1) rfl dX2_init_1 (Nat.le_of_ble_eq_true rfl) (Nat.le_of_ble_eq_true rfl) ?_
  refine W.eq (g2 := F0 m 4 ls []) rfl ?_
  refine lv_aload_n hx hb dX2_init_4 rfl (lv_at hl 0 rfl) ?_
  refine lv_bipush (v := zI 6) hx hb dX2_init_5 (by decide +kernel) ?_
  refine nwI (N := 6) C hA hw (hts (.arrayClass .int) (List.mem_of_getElem? (i := 4) rfl)) (by decide) (by decide) (by decide) dX2_init_7 (fun z1 H hw => ?_)
  have hw : Wd D A s [(h0, .inr (2, [.null, .null, .int (zI 0)])), (z1, .inl (cI, 6, .inl (fun _ => zI 0)))] H locs := hw
  refine W.widen (k := 1) (n := 6) (by decide) (by decide) ?_
  refine va_putF (D := D) (ci := 2) (v := .ref z1) (ty := (.array .int)) (C := RX2) (T := TX2) (N := 3) hx hb hts (fun _ h => List.mem_cons_of_mem _ (List.mem_append_right _ h)) tyX2 tyX2_ok nmX2 hown hK hw.1 hw.2.1 hw.2.2 0 rfl rfl 0 (by decide) (hts (.fieldLink RX2 9 "EggThrones$Clues" "tests" "[I") (List.mem_of_getElem? (i := 5) rfl)) (fun _ h9 => h9) rfl hin rfl (by decide +kernel) rfl rfl (Nat.le_of_ble_eq_true rfl) dX2_init_9 (fun H locs hP hD hS => ?_)
  have hw : Wd D A s [(h0, .inr (2, [.ref z1, .null, .int (zI 0)])), (z1, .inl (cI, 6, .inl (fun _ => zI 0)))] H locs := ⟨hP, hD, hS⟩
  refine lv_aload_n hx hb dX2_init_12 rfl (lv_at hl 0 rfl) ?_
  refine lv_bipush (v := zI 6) hx hb dX2_init_13 (by decide +kernel) ?_
  refine nwI (N := 6) C hA hw (hts (.arrayClass .int) (List.mem_of_getElem? (i := 4) rfl)) (by decide) (by decide) (by decide) dX2_init_15 (fun z2 H hw => ?_)
  have hw : Wd D A s [(h0, .inr (2, [.ref z1, .null, .int (zI 0)])), (z1, .inl (cI, 6, .inl (fun _ => zI 0))), (z2, .inl (cI, 6, .inl (fun _ => zI 0)))] H locs := hw
  refine W.widen (k := 2) (n := 12) (by decide) (by decide) ?_
  refine va_putF (D := D) (ci := 2) (v := .ref z2) (ty := (.array .int)) (C := RX2) (T := TX2) (N := 3) hx hb hts (fun _ h => List.mem_cons_of_mem _ (List.mem_append_right _ h)) tyX2 tyX2_ok nmX2 hown hK hw.1 hw.2.1 hw.2.2 0 rfl rfl 1 (by decide) (hts (.fieldLink RX2 15 "EggThrones$Clues" "answers" "[I") (List.mem_of_getElem? (i := 6) rfl)) (fun _ h9 => h9) rfl hin rfl (by decide +kernel) rfl rfl (Nat.le_of_ble_eq_true rfl) dX2_init_17 (fun H locs hP hD hS => ?_)
  have hw : Wd D A s [(h0, .inr (2, [.ref z1, .ref z2, .int (zI 0)])), (z1, .inl (cI, 6, .inl (fun _ => zI 0))), (z2, .inl (cI, 6, .inl (fun _ => zI 0)))] H locs := ⟨hP, hD, hS⟩
  refine lv_aload_n hx hb dX2_init_20 rfl (lv_at hl 0 rfl) ?_
  refine lv_iconst (v := zI 0) hx hb dX2_init_21 rfl ?_
  refine va_put (D := D) (ci := 2) (v := .int (zI 0)) (ty := .int) (C := RX2) (T := TX2) (N := 3) hx hb hts (fun _ h => List.mem_cons_of_mem _ (List.mem_append_right _ h)) tyX2 tyX2_ok nmX2 hown hK hw.1 hw.2.1 hw.2.2 0 rfl rfl 2 (by decide) (hts (.fieldLink RX2 18 "EggThrones$Clues" "count" "I") (List.mem_of_getElem? (i := 7) rfl)) (fun _ h9 => h9) rfl (by decide +kernel) rfl rfl (Nat.le_of_ble_eq_true rfl) dX2_init_22 (fun H locs hP hD hS => ?_)
  have hw : Wd D A s [(h0, .inr (2, [.ref z1, .ref z2, .int (zI 0)])), (z1, .inl (cI, 6, .inl (fun _ => zI 0))), (z2, .inl (cI, 6, .inl (fun _ => zI 0)))] H locs := ⟨hP, hD, hS⟩
  rw [hAe] at hw
  exact W.vret hx hb hr (fun t ht hW => ⟨⟨(z1, z2), rfl, trivial, ⟨by rw [ht]; exact hw.1, va_K.moved hW.alike hK, hw.2.1, hN.warm hW⟩⟩, hw.2.2.F ht⟩) hw.2.2.2.2 dX2_init_25 hlk
abbrev rmX1_init : Room := { frames := 1, cells := 2, slots := 30, locals := 12 }
def mkX1 (h0 : Nat) (cI cZ : ClassId) (u : Nat × Nat) : va_W := [(h0, .inr (1, [.ref (u.1), .ref (u.2), .int (zI 0)])), ((u.1), .inl (cI, 15, .inl (fun _ => zI 0))), ((u.2), .inl (cI, 15, .inl (fun _ => zI 0)))]
set_option maxHeartbeats 4000000 in
set_option maxRecDepth 100000 in
theorem tX1_init {l : Launch} {D : va_G} {cI cZ : ClassId} {h0 sz : Nat} : Met l yX1_init wsX1_init rmX1_init (va_Pc [.ref h0] (CXn D (TY cI cZ) sz [(h0, .inr (1, [.null, .null, .int (zI 0)]))])) (QN D (TY cI cZ) sz [(h0, .inr (1, [.null, .null, .int (zI 0)]))] (fun (_ : Nat × Nat) => True) (mkX1 h0 cI cZ)) 2 30 (va_A [(h0, .inr (1, [.null, .null, .int (zI 0)]))] sz) := by
  refine opnN (cc := cX1_init) (maxL := 1) rfl (by decide) rfl (Nat.le_of_ble_eq_true rfl) (fun p e s m below meth c C hin hz ls hw hl => ?_)
  obtain ⟨hx, hb, hr, hml, hown, hts, hlk, hK, hN⟩ := id C
  have hl : lv_has ls 1 [(0, .ref h0)] := hl
  have hA : ∀ q : Nat, s.heap.size ≤ q → va_A [(h0, .inr (1, [.null, .null, .int (zI 0)]))] sz q := fun q h => Or.inr (by omega)
  obtain ⟨A, hAe⟩ : ∃ A : Nat → Prop, A = va_A [(h0, .inr (1, [.null, .null, .int (zI 0)]))] sz := ⟨_, rfl⟩
  rw [← hAe] at hw hA
  obtain ⟨H, locs, eH, eL⟩ : ∃ (H : Heap) (locs : List Loc), H = s.heap ∧ locs = [] := ⟨_, _, rfl, rfl⟩
  rw [← eH, ← eL] at hw ⊢
  refine lv_aload_n hx hb dX1_init_0 rfl (lv_at hl 0 rfl) ?_
  refine W.objInit hx hb hown (hts (.methodLink RX1 3 objectInit) (List.mem_of_getElem? (i := 1) rfl)) (hts (.instanceMethod objectInit) (List.mem_of_getElem? (i := 2) rfl)) (hts (.code objectInit ⟨#[0xb1]⟩ 1 none) (List.mem_of_getElem? (i := 3) rfl)) rfl (by rw [hml]; exact hl.1) rfl dX1_init_1 (Nat.le_of_ble_eq_true rfl) (Nat.le_of_ble_eq_true rfl) ?_
  refine W.eq (g2 := F0 m 4 ls []) rfl ?_
  refine lv_aload_n hx hb dX1_init_4 rfl (lv_at hl 0 rfl) ?_
  refine lv_bipush (v := zI 15) hx hb dX1_init_5 (by decide +kernel) ?_
  refine nwI (N := 15) C hA hw (hts (.arrayClass .int) (List.mem_of_getElem? (i := 4) rfl)) (by decide) (by decide) (by decide) dX1_init_7 (fun z1 H hw => ?_)
  have hw : Wd D A s [(h0, .inr (1, [.null, .null, .int (zI 0)])), (z1, .inl (cI, 15, .inl (fun _ => zI 0)))] H locs := hw
  refine W.widen (k := 1) (n := 15) (by decide) (by decide) ?_
  refine va_putF (D := D) (ci := 1) (v := .ref z1) (ty := (.array .int)) (C := RX1) (T := TX1) (N := 3) hx hb hts (fun _ h => List.mem_cons_of_mem _ (List.mem_append_right _ h)) tyX1 tyX1_ok nmX1 hown hK hw.1 hw.2.1 hw.2.2 0 rfl rfl 0 (by decide) (hts (.fieldLink RX1 9 "EggThrones$Book" "eggs" "[I") (List.mem_of_getElem? (i := 5) rfl)) (fun _ h9 => h9) rfl hin rfl (by decide +kernel) rfl rfl (Nat.le_of_ble_eq_true rfl) dX1_init_9 (fun H locs hP hD hS => ?_)
  have hw : Wd D A s [(h0, .inr (1, [.ref z1, .null, .int (zI 0)])), (z1, .inl (cI, 15, .inl (fun _ => zI 0)))] H locs := ⟨hP, hD, hS⟩
  refine lv_aload_n hx hb dX1_init_12 rfl (lv_at hl 0 rfl) ?_
  refine lv_bipush (v := zI 15) hx hb dX1_init_13 (by decide +kernel) ?_
  refine nwI (N := 15) C hA hw (hts (.arrayClass .int) (List.mem_of_getElem? (i := 4) rfl)) (by decide) (by decide) (by decide) dX1_init_15 (fun z2 H hw => ?_)
  have hw : Wd D A s [(h0, .inr (1, [.ref z1, .null, .int (zI 0)])), (z1, .inl (cI, 15, .inl (fun _ => zI 0))), (z2, .inl (cI, 15, .inl (fun _ => zI 0)))] H locs := hw
  refine W.widen (k := 2) (n := 30) (by decide) (by decide) ?_
  refine va_putF (D := D) (ci := 1) (v := .ref z2) (ty := (.array .int)) (C := RX1) (T := TX1) (N := 3) hx hb hts (fun _ h => List.mem_cons_of_mem _ (List.mem_append_right _ h)) tyX1 tyX1_ok nmX1 hown hK hw.1 hw.2.1 hw.2.2 0 rfl rfl 1 (by decide) (hts (.fieldLink RX1 15 "EggThrones$Book" "states" "[I") (List.mem_of_getElem? (i := 6) rfl)) (fun _ h9 => h9) rfl hin rfl (by decide +kernel) rfl rfl (Nat.le_of_ble_eq_true rfl) dX1_init_17 (fun H locs hP hD hS => ?_)
  have hw : Wd D A s [(h0, .inr (1, [.ref z1, .ref z2, .int (zI 0)])), (z1, .inl (cI, 15, .inl (fun _ => zI 0))), (z2, .inl (cI, 15, .inl (fun _ => zI 0)))] H locs := ⟨hP, hD, hS⟩
  refine lv_aload_n hx hb dX1_init_20 rfl (lv_at hl 0 rfl) ?_
  refine lv_iconst (v := zI 0) hx hb dX1_init_21 rfl ?_
  refine va_put (D := D) (ci := 1) (v := .int (zI 0)) (ty := .int) (C := RX1) (T := TX1) (N := 3) hx hb hts (fun _ h => List.mem_cons_of_mem _ (List.mem_append_right _ h)) tyX1 tyX1_ok nmX1 hown hK hw.1 hw.2.1 hw.2.2 0 rfl rfl 2 (by decide) (hts (.fieldLink RX1 18 "EggThrones$Book" "count" "I") (List.mem_of_getElem? (i := 7) rfl)) (fun _ h9 => h9) rfl (by decide +kernel) rfl rfl (Nat.le_of_ble_eq_true rfl) dX1_init_22 (fun H locs hP hD hS => ?_)
  have hw : Wd D A s [(h0, .inr (1, [.ref z1, .ref z2, .int (zI 0)])), (z1, .inl (cI, 15, .inl (fun _ => zI 0))), (z2, .inl (cI, 15, .inl (fun _ => zI 0)))] H locs := ⟨hP, hD, hS⟩
  rw [hAe] at hw
  exact W.vret hx hb hr (fun t ht hW => ⟨⟨(z1, z2), rfl, trivial, ⟨by rw [ht]; exact hw.1, va_K.moved hW.alike hK, hw.2.1, hN.warm hW⟩⟩, hw.2.2.F ht⟩) hw.2.2.2.2 dX1_init_25 hlk
abbrev rmX0_init : Room := { frames := 1, cells := 4, slots := 24, locals := 12 }
def mkX0 (h0 : Nat) (cI cZ : ClassId) (u : Nat × Nat × Nat × Nat) : va_W := [(h0, .inr (0, [.ref (u.1), .ref (u.2.1), .ref (u.2.2.1), .ref (u.2.2.2), .int (zI 0), .int (zI 0)])), ((u.1), .inl (cI, 7, .inl (fun _ => zI 0))), ((u.2.1), .inl (cI, 3, .inl (fun _ => zI 0))), ((u.2.2.1), .inl (cI, 7, .inl (fun _ => zI 0))), ((u.2.2.2), .inl (cI, 7, .inl (fun _ => zI 0)))]
set_option maxHeartbeats 4000000 in
set_option maxRecDepth 100000 in
theorem tX0_init {l : Launch} {D : va_G} {cI cZ : ClassId} {h0 sz : Nat} : Met l yX0_init wsX0_init rmX0_init (va_Pc [.ref h0] (CXn D (TY cI cZ) sz [(h0, .inr (0, [.null, .null, .null, .null, .int (zI 0), .int (zI 0)]))])) (QN D (TY cI cZ) sz [(h0, .inr (0, [.null, .null, .null, .null, .int (zI 0), .int (zI 0)]))] (fun (_ : Nat × Nat × Nat × Nat) => True) (mkX0 h0 cI cZ)) 4 24 (va_A [(h0, .inr (0, [.null, .null, .null, .null, .int (zI 0), .int (zI 0)]))] sz) := by
  refine opnN (cc := cX0_init) (maxL := 1) rfl (by decide) rfl (Nat.le_of_ble_eq_true rfl) (fun p e s m below meth c C hin hz ls hw hl => ?_)
  obtain ⟨hx, hb, hr, hml, hown, hts, hlk, hK, hN⟩ := id C
  have hl : lv_has ls 1 [(0, .ref h0)] := hl
  have hA : ∀ q : Nat, s.heap.size ≤ q → va_A [(h0, .inr (0, [.null, .null, .null, .null, .int (zI 0), .int (zI 0)]))] sz q := fun q h => Or.inr (by omega)
  obtain ⟨A, hAe⟩ : ∃ A : Nat → Prop, A = va_A [(h0, .inr (0, [.null, .null, .null, .null, .int (zI 0), .int (zI 0)]))] sz := ⟨_, rfl⟩
  rw [← hAe] at hw hA
  obtain ⟨H, locs, eH, eL⟩ : ∃ (H : Heap) (locs : List Loc), H = s.heap ∧ locs = [] := ⟨_, _, rfl, rfl⟩
  rw [← eH, ← eL] at hw ⊢
  refine lv_aload_n hx hb dX0_init_0 rfl (lv_at hl 0 rfl) ?_
  refine W.objInit hx hb hown (hts (.methodLink RX0 3 objectInit) (List.mem_of_getElem? (i := 1) rfl)) (hts (.instanceMethod objectInit) (List.mem_of_getElem? (i := 2) rfl)) (hts (.code objectInit ⟨#[0xb1]⟩ 1 none) (List.mem_of_getElem? (i := 3) rfl)) rfl (by rw [hml]; exact hl.1) rfl dX0_init_1 (Nat.le_of_ble_eq_true rfl) (Nat.le_of_ble_eq_true rfl) ?_
  refine W.eq (g2 := F0 m 4 ls []) rfl ?_
  refine lv_aload_n hx hb dX0_init_4 rfl (lv_at hl 0 rfl) ?_
  refine lv_bipush (v := zI 7) hx hb dX0_init_5 (by decide +kernel) ?_
  refine nwI (N := 7) C hA hw (hts (.arrayClass .int) (List.mem_of_getElem? (i := 4) rfl)) (by decide) (by decide) (by decide) dX0_init_7 (fun z1 H hw => ?_)
  have hw : Wd D A s [(h0, .inr (0, [.null, .null, .null, .null, .int (zI 0), .int (zI 0)])), (z1, .inl (cI, 7, .inl (fun _ => zI 0)))] H locs := hw
  refine W.widen (k := 1) (n := 7) (by decide) (by decide) ?_
  refine va_putF (D := D) (ci := 0) (v := .ref z1) (ty := (.array .int)) (C := RX0) (T := TX0) (N := 6) hx hb hts (fun _ h => List.mem_cons_of_mem _ (List.mem_append_right _ h)) tyX0 tyX0_ok nmX0 hown hK hw.1 hw.2.1 hw.2.2 0 rfl rfl 0 (by decide) (hts (.fieldLink RX0 9 "EggThrones$Boiling" "times" "[I") (List.mem_of_getElem? (i := 5) rfl)) (fun _ h9 => h9) rfl hin rfl (by decide +kernel) rfl rfl (Nat.le_of_ble_eq_true rfl) dX0_init_9 (fun H locs hP hD hS => ?_)
  have hw : Wd D A s [(h0, .inr (0, [.ref z1, .null, .null, .null, .int (zI 0), .int (zI 0)])), (z1, .inl (cI, 7, .inl (fun _ => zI 0)))] H locs := ⟨hP, hD, hS⟩
  refine lv_aload_n hx hb dX0_init_12 rfl (lv_at hl 0 rfl) ?_
  refine lv_iconst (v := zI 3) hx hb dX0_init_13 rfl ?_
  refine nwI (N := 3) C hA hw (hts (.arrayClass .int) (List.mem_of_getElem? (i := 4) rfl)) (by decide) (by decide) (by decide) dX0_init_14 (fun z2 H hw => ?_)
  have hw : Wd D A s [(h0, .inr (0, [.ref z1, .null, .null, .null, .int (zI 0), .int (zI 0)])), (z1, .inl (cI, 7, .inl (fun _ => zI 0))), (z2, .inl (cI, 3, .inl (fun _ => zI 0)))] H locs := hw
  refine W.widen (k := 2) (n := 10) (by decide) (by decide) ?_
  refine va_putF (D := D) (ci := 0) (v := .ref z2) (ty := (.array .int)) (C := RX0) (T := TX0) (N := 6) hx hb hts (fun _ h => List.mem_cons_of_mem _ (List.mem_append_right _ h)) tyX0 tyX0_ok nmX0 hown hK hw.1 hw.2.1 hw.2.2 0 rfl rfl 1 (by decide) (hts (.fieldLink RX0 15 "EggThrones$Boiling" "loads" "[I") (List.mem_of_getElem? (i := 6) rfl)) (fun _ h9 => h9) rfl hin rfl (by decide +kernel) rfl rfl (Nat.le_of_ble_eq_true rfl) dX0_init_16 (fun H locs hP hD hS => ?_)
  have hw : Wd D A s [(h0, .inr (0, [.ref z1, .ref z2, .null, .null, .int (zI 0), .int (zI 0)])), (z1, .inl (cI, 7, .inl (fun _ => zI 0))), (z2, .inl (cI, 3, .inl (fun _ => zI 0)))] H locs := ⟨hP, hD, hS⟩
  refine lv_aload_n hx hb dX0_init_19 rfl (lv_at hl 0 rfl) ?_
  refine lv_bipush (v := zI 7) hx hb dX0_init_20 (by decide +kernel) ?_
  refine nwI (N := 7) C hA hw (hts (.arrayClass .int) (List.mem_of_getElem? (i := 4) rfl)) (by decide) (by decide) (by decide) dX0_init_22 (fun z3 H hw => ?_)
  have hw : Wd D A s [(h0, .inr (0, [.ref z1, .ref z2, .null, .null, .int (zI 0), .int (zI 0)])), (z1, .inl (cI, 7, .inl (fun _ => zI 0))), (z2, .inl (cI, 3, .inl (fun _ => zI 0))), (z3, .inl (cI, 7, .inl (fun _ => zI 0)))] H locs := hw
  refine W.widen (k := 3) (n := 17) (by decide) (by decide) ?_
  refine va_putF (D := D) (ci := 0) (v := .ref z3) (ty := (.array .int)) (C := RX0) (T := TX0) (N := 6) hx hb hts (fun _ h => List.mem_cons_of_mem _ (List.mem_append_right _ h)) tyX0 tyX0_ok nmX0 hown hK hw.1 hw.2.1 hw.2.2 0 rfl rfl 2 (by decide) (hts (.fieldLink RX0 18 "EggThrones$Boiling" "way" "[I") (List.mem_of_getElem? (i := 7) rfl)) (fun _ h9 => h9) rfl hin rfl (by decide +kernel) rfl rfl (Nat.le_of_ble_eq_true rfl) dX0_init_24 (fun H locs hP hD hS => ?_)
  have hw : Wd D A s [(h0, .inr (0, [.ref z1, .ref z2, .ref z3, .null, .int (zI 0), .int (zI 0)])), (z1, .inl (cI, 7, .inl (fun _ => zI 0))), (z2, .inl (cI, 3, .inl (fun _ => zI 0))), (z3, .inl (cI, 7, .inl (fun _ => zI 0)))] H locs := ⟨hP, hD, hS⟩
  refine lv_aload_n hx hb dX0_init_27 rfl (lv_at hl 0 rfl) ?_
  refine lv_bipush (v := zI 7) hx hb dX0_init_28 (by decide +kernel) ?_
  refine nwI (N := 7) C hA hw (hts (.arrayClass .int) (List.mem_of_getElem? (i := 4) rfl)) (by decide) (by decide) (by decide) dX0_init_30 (fun z4 H hw => ?_)
  have hw : Wd D A s [(h0, .inr (0, [.ref z1, .ref z2, .ref z3, .null, .int (zI 0), .int (zI 0)])), (z1, .inl (cI, 7, .inl (fun _ => zI 0))), (z2, .inl (cI, 3, .inl (fun _ => zI 0))), (z3, .inl (cI, 7, .inl (fun _ => zI 0))), (z4, .inl (cI, 7, .inl (fun _ => zI 0)))] H locs := hw
  refine W.widen (k := 4) (n := 24) (by decide) (by decide) ?_
  refine va_putF (D := D) (ci := 0) (v := .ref z4) (ty := (.array .int)) (C := RX0) (T := TX0) (N := 6) hx hb hts (fun _ h => List.mem_cons_of_mem _ (List.mem_append_right _ h)) tyX0 tyX0_ok nmX0 hown hK hw.1 hw.2.1 hw.2.2 0 rfl rfl 3 (by decide) (hts (.fieldLink RX0 21 "EggThrones$Boiling" "bestWay" "[I") (List.mem_of_getElem? (i := 8) rfl)) (fun _ h9 => h9) rfl hin rfl (by decide +kernel) rfl rfl (Nat.le_of_ble_eq_true rfl) dX0_init_32 (fun H locs hP hD hS => ?_)
  have hw : Wd D A s [(h0, .inr (0, [.ref z1, .ref z2, .ref z3, .ref z4, .int (zI 0), .int (zI 0)])), (z1, .inl (cI, 7, .inl (fun _ => zI 0))), (z2, .inl (cI, 3, .inl (fun _ => zI 0))), (z3, .inl (cI, 7, .inl (fun _ => zI 0))), (z4, .inl (cI, 7, .inl (fun _ => zI 0)))] H locs := ⟨hP, hD, hS⟩
  refine lv_aload_n hx hb dX0_init_35 rfl (lv_at hl 0 rfl) ?_
  refine lv_iconst (v := zI 0) hx hb dX0_init_36 rfl ?_
  refine va_put (D := D) (ci := 0) (v := .int (zI 0)) (ty := .int) (C := RX0) (T := TX0) (N := 6) hx hb hts (fun _ h => List.mem_cons_of_mem _ (List.mem_append_right _ h)) tyX0 tyX0_ok nmX0 hown hK hw.1 hw.2.1 hw.2.2 0 rfl rfl 4 (by decide) (hts (.fieldLink RX0 24 "EggThrones$Boiling" "places" "I") (List.mem_of_getElem? (i := 9) rfl)) (fun _ h9 => h9) rfl (by decide +kernel) rfl rfl (Nat.le_of_ble_eq_true rfl) dX0_init_37 (fun H locs hP hD hS => ?_)
  have hw : Wd D A s [(h0, .inr (0, [.ref z1, .ref z2, .ref z3, .ref z4, .int (zI 0), .int (zI 0)])), (z1, .inl (cI, 7, .inl (fun _ => zI 0))), (z2, .inl (cI, 3, .inl (fun _ => zI 0))), (z3, .inl (cI, 7, .inl (fun _ => zI 0))), (z4, .inl (cI, 7, .inl (fun _ => zI 0)))] H locs := ⟨hP, hD, hS⟩
  refine lv_aload_n hx hb dX0_init_40 rfl (lv_at hl 0 rfl) ?_
  refine lv_iconst (v := zI 0) hx hb dX0_init_41 rfl ?_
  refine va_put (D := D) (ci := 0) (v := .int (zI 0)) (ty := .int) (C := RX0) (T := TX0) (N := 6) hx hb hts (fun _ h => List.mem_cons_of_mem _ (List.mem_append_right _ h)) tyX0 tyX0_ok nmX0 hown hK hw.1 hw.2.1 hw.2.2 0 rfl rfl 5 (by decide) (hts (.fieldLink RX0 28 "EggThrones$Boiling" "least" "I") (List.mem_of_getElem? (i := 10) rfl)) (fun _ h9 => h9) rfl (by decide +kernel) rfl rfl (Nat.le_of_ble_eq_true rfl) dX0_init_42 (fun H locs hP hD hS => ?_)
  have hw : Wd D A s [(h0, .inr (0, [.ref z1, .ref z2, .ref z3, .ref z4, .int (zI 0), .int (zI 0)])), (z1, .inl (cI, 7, .inl (fun _ => zI 0))), (z2, .inl (cI, 3, .inl (fun _ => zI 0))), (z3, .inl (cI, 7, .inl (fun _ => zI 0))), (z4, .inl (cI, 7, .inl (fun _ => zI 0)))] H locs := ⟨hP, hD, hS⟩
  rw [hAe] at hw
  exact W.vret hx hb hr (fun t ht hW => ⟨⟨(z1, z2, z3, z4), rfl, trivial, ⟨by rw [ht]; exact hw.1, va_K.moved hW.alike hK, hw.2.1, hN.warm hW⟩⟩, hw.2.2.F ht⟩) hw.2.2.2.2 dX0_init_45 hlk
abbrev rmX7_init : Room := { frames := 1, cells := 0, slots := 0, locals := 12 }
def mkX7 (h0 : Nat) (cI cZ : ClassId) (u : Unit) : va_W := [(h0, .inr (7, [.int (zI 0), .int (zI 0), .int (zI 0)]))]
set_option maxHeartbeats 4000000 in
set_option maxRecDepth 100000 in
theorem tX7_init {l : Launch} {D : va_G} {cI cZ : ClassId} {h0 sz : Nat} : Met l yX7_init wsX7_init rmX7_init (va_Pc [.ref h0] (CXn D (TY cI cZ) sz [(h0, .inr (7, [.int (zI 0), .int (zI 0), .int (zI 0)]))])) (QN D (TY cI cZ) sz [(h0, .inr (7, [.int (zI 0), .int (zI 0), .int (zI 0)]))] (fun (_ : Unit) => True) (mkX7 h0 cI cZ)) 0 0 (va_A [(h0, .inr (7, [.int (zI 0), .int (zI 0), .int (zI 0)]))] sz) := by
  refine opnN (cc := cX7_init) (maxL := 1) rfl (by decide) rfl (Nat.le_of_ble_eq_true rfl) (fun p e s m below meth c C hin hz ls hw hl => ?_)
  obtain ⟨hx, hb, hr, hml, hown, hts, hlk, hK, hN⟩ := id C
  have hl : lv_has ls 1 [(0, .ref h0)] := hl
  have hA : ∀ q : Nat, s.heap.size ≤ q → va_A [(h0, .inr (7, [.int (zI 0), .int (zI 0), .int (zI 0)]))] sz q := fun q h => Or.inr (by omega)
  obtain ⟨A, hAe⟩ : ∃ A : Nat → Prop, A = va_A [(h0, .inr (7, [.int (zI 0), .int (zI 0), .int (zI 0)]))] sz := ⟨_, rfl⟩
  rw [← hAe] at hw hA
  obtain ⟨H, locs, eH, eL⟩ : ∃ (H : Heap) (locs : List Loc), H = s.heap ∧ locs = [] := ⟨_, _, rfl, rfl⟩
  rw [← eH, ← eL] at hw ⊢
  refine lv_aload_n hx hb dX7_init_0 rfl (lv_at hl 0 rfl) ?_
  refine W.objInit hx hb hown (hts (.methodLink RX7 3 objectInit) (List.mem_of_getElem? (i := 1) rfl)) (hts (.instanceMethod objectInit) (List.mem_of_getElem? (i := 2) rfl)) (hts (.code objectInit ⟨#[0xb1]⟩ 1 none) (List.mem_of_getElem? (i := 3) rfl)) rfl (by rw [hml]; exact hl.1) rfl dX7_init_1 (Nat.le_of_ble_eq_true rfl) (Nat.le_of_ble_eq_true rfl) ?_
  refine W.eq (g2 := F0 m 4 ls []) rfl ?_
  refine lv_aload_n hx hb dX7_init_4 rfl (lv_at hl 0 rfl) ?_
  refine lv_iconst (v := zI 0) hx hb dX7_init_5 rfl ?_
  refine va_put (D := D) (ci := 7) (v := .int (zI 0)) (ty := .int) (C := RX7) (T := TX7) (N := 3) hx hb hts (fun _ h => List.mem_cons_of_mem _ (List.mem_append_right _ h)) tyX7 tyX7_ok nmX7 hown hK hw.1 hw.2.1 hw.2.2 0 rfl rfl 0 (by decide) (hts (.fieldLink RX7 9 "EggThrones$Succession" "kings" "I") (List.mem_of_getElem? (i := 4) rfl)) (fun _ h9 => h9) rfl (by decide +kernel) rfl rfl (Nat.le_of_ble_eq_true rfl) dX7_init_6 (fun H locs hP hD hS => ?_)
  have hw : Wd D A s [(h0, .inr (7, [.int (zI 0), .int (zI 0), .int (zI 0)]))] H locs := ⟨hP, hD, hS⟩
  refine lv_aload_n hx hb dX7_init_9 rfl (lv_at hl 0 rfl) ?_
  refine lv_iconst (v := zI 0) hx hb dX7_init_10 rfl ?_
  refine va_put (D := D) (ci := 7) (v := .int (zI 0)) (ty := .int) (C := RX7) (T := TX7) (N := 3) hx hb hts (fun _ h => List.mem_cons_of_mem _ (List.mem_append_right _ h)) tyX7 tyX7_ok nmX7 hown hK hw.1 hw.2.1 hw.2.2 0 rfl rfl 1 (by decide) (hts (.fieldLink RX7 15 "EggThrones$Succession" "minutes" "I") (List.mem_of_getElem? (i := 5) rfl)) (fun _ h9 => h9) rfl (by decide +kernel) rfl rfl (Nat.le_of_ble_eq_true rfl) dX7_init_11 (fun H locs hP hD hS => ?_)
  have hw : Wd D A s [(h0, .inr (7, [.int (zI 0), .int (zI 0), .int (zI 0)]))] H locs := ⟨hP, hD, hS⟩
  refine lv_aload_n hx hb dX7_init_14 rfl (lv_at hl 0 rfl) ?_
  refine lv_iconst (v := zI 0) hx hb dX7_init_15 rfl ?_
  refine va_put (D := D) (ci := 7) (v := .int (zI 0)) (ty := .int) (C := RX7) (T := TX7) (N := 3) hx hb hts (fun _ h => List.mem_cons_of_mem _ (List.mem_append_right _ h)) tyX7 tyX7_ok nmX7 hown hK hw.1 hw.2.1 hw.2.2 0 rfl rfl 2 (by decide) (hts (.fieldLink RX7 18 "EggThrones$Succession" "set" "I") (List.mem_of_getElem? (i := 6) rfl)) (fun _ h9 => h9) rfl (by decide +kernel) rfl rfl (Nat.le_of_ble_eq_true rfl) dX7_init_16 (fun H locs hP hD hS => ?_)
  have hw : Wd D A s [(h0, .inr (7, [.int (zI 0), .int (zI 0), .int (zI 0)]))] H locs := ⟨hP, hD, hS⟩
  rw [hAe] at hw
  exact W.vret hx hb hr (fun t ht hW => ⟨⟨(), rfl, trivial, ⟨by rw [ht]; exact hw.1, va_K.moved hW.alike hK, hw.2.1, hN.warm hW⟩⟩, hw.2.2.F ht⟩) hw.2.2.2.2 dX7_init_19 hlk
abbrev rmX6_init : Room := { frames := 1, cells := 1, slots := 5, locals := 12 }
def mkX6 (h0 : Nat) (cI cZ : ClassId) (u : Nat) : va_W := [(h0, .inr (6, [.ref u])), (u, .inl (cI, 5, .inl (fun _ => zI 0)))]
set_option maxHeartbeats 4000000 in
set_option maxRecDepth 100000 in
theorem tX6_init {l : Launch} {D : va_G} {cI cZ : ClassId} {h0 sz : Nat} : Met l yX6_init wsX6_init rmX6_init (va_Pc [.ref h0] (CXn D (TY cI cZ) sz [(h0, .inr (6, [.null]))])) (QN D (TY cI cZ) sz [(h0, .inr (6, [.null]))] (fun (_ : Nat) => True) (mkX6 h0 cI cZ)) 1 5 (va_A [(h0, .inr (6, [.null]))] sz) := by
  refine opnN (cc := cX6_init) (maxL := 1) rfl (by decide) rfl (Nat.le_of_ble_eq_true rfl) (fun p e s m below meth c C hin hz ls hw hl => ?_)
  obtain ⟨hx, hb, hr, hml, hown, hts, hlk, hK, hN⟩ := id C
  have hl : lv_has ls 1 [(0, .ref h0)] := hl
  have hA : ∀ q : Nat, s.heap.size ≤ q → va_A [(h0, .inr (6, [.null]))] sz q := fun q h => Or.inr (by omega)
  obtain ⟨A, hAe⟩ : ∃ A : Nat → Prop, A = va_A [(h0, .inr (6, [.null]))] sz := ⟨_, rfl⟩
  rw [← hAe] at hw hA
  obtain ⟨H, locs, eH, eL⟩ : ∃ (H : Heap) (locs : List Loc), H = s.heap ∧ locs = [] := ⟨_, _, rfl, rfl⟩
  rw [← eH, ← eL] at hw ⊢
  refine lv_aload_n hx hb dX6_init_0 rfl (lv_at hl 0 rfl) ?_
  refine W.objInit hx hb hown (hts (.methodLink RX6 3 objectInit) (List.mem_of_getElem? (i := 1) rfl)) (hts (.instanceMethod objectInit) (List.mem_of_getElem? (i := 2) rfl)) (hts (.code objectInit ⟨#[0xb1]⟩ 1 none) (List.mem_of_getElem? (i := 3) rfl)) rfl (by rw [hml]; exact hl.1) rfl dX6_init_1 (Nat.le_of_ble_eq_true rfl) (Nat.le_of_ble_eq_true rfl) ?_
  refine W.eq (g2 := F0 m 4 ls []) rfl ?_
  refine lv_aload_n hx hb dX6_init_4 rfl (lv_at hl 0 rfl) ?_
  refine lv_iconst (v := zI 5) hx hb dX6_init_5 rfl ?_
  refine nwI (N := 5) C hA hw (hts (.arrayClass .int) (List.mem_of_getElem? (i := 4) rfl)) (by decide) (by decide) (by decide) dX6_init_6 (fun z1 H hw => ?_)
  have hw : Wd D A s [(h0, .inr (6, [.null])), (z1, .inl (cI, 5, .inl (fun _ => zI 0)))] H locs := hw
  refine W.widen (k := 1) (n := 5) (by decide) (by decide) ?_
  refine va_putF (D := D) (ci := 6) (v := .ref z1) (ty := (.array .int)) (C := RX6) (T := TX6) (N := 1) hx hb hts (fun _ h => List.mem_cons_of_mem _ (List.mem_append_right _ h)) tyX6 tyX6_ok nmX6 hown hK hw.1 hw.2.1 hw.2.2 0 rfl rfl 0 (by decide) (hts (.fieldLink RX6 9 "EggThrones$Sharing" "likings" "[I") (List.mem_of_getElem? (i := 5) rfl)) (fun _ h9 => h9) rfl hin rfl (by decide +kernel) rfl rfl (Nat.le_of_ble_eq_true rfl) dX6_init_8 (fun H locs hP hD hS => ?_)
  have hw : Wd D A s [(h0, .inr (6, [.ref z1])), (z1, .inl (cI, 5, .inl (fun _ => zI 0)))] H locs := ⟨hP, hD, hS⟩
  rw [hAe] at hw
  exact W.vret hx hb hr (fun t ht hW => ⟨⟨(z1), rfl, trivial, ⟨by rw [ht]; exact hw.1, va_K.moved hW.alike hK, hw.2.1, hN.warm hW⟩⟩, hw.2.2.F ht⟩) hw.2.2.2.2 dX6_init_11 hlk
