abbrev rmX11_dynasty : Room := { frames := 5, cells := 0, slots := 0, locals := 115 }
set_option maxHeartbeats 4000000 in
set_option maxRecDepth 100000 in
theorem wX11_dynasty_0 {p : Program} {l : Launch} {e : Env} {s : State} {m : MethodId} {args : Array Value} {below : List Frame} {meth : Method} {c : Code} {D : va_G} {A : Nat → Prop} {q : Nat → Nat} {cI cZ : ClassId} {Q : State → Prop} {σ : St} {r : Int} (C : Cx p s m args meth c D (TY cI cZ) cX11_dynasty (some .int) 3 wsX11_dynasty RX11) (hret : RtI p l e rmX11_dynasty s m args below meth c D A cX11_dynasty Q (wM q cI cZ σ) (zI r)) :
    ∀ (x1 : Int) (H : Heap) (locs : List Loc) (ls : Array Slot), Wd D A s (wM q cI cZ σ) H locs → lv_has ls 3 [(0, .ref (q 0)), (1, .int (zI x1))] → pX11_dynasty_0 σ x1 = some r → W p l e rmX11_dynasty s m args below meth c H locs 0 0 Q (F0 m 0 ls []) := by
  obtain ⟨hx, hb, hr, hml, hown, hts, hlk, hK, hN⟩ := id C
  intro x1 H locs ls hw hl hf
  rw [pX11_dynasty_0] at hf
  refine lv_iload_n hx hb dX11_dynasty_0 rfl (lv_at hl 1 rfl) ?_
  obtain ⟨hz1, hf⟩ := gd_s hf
  refine zv_i2l hx hb hz1 dX11_dynasty_1 ?_
  refine lv_lconst (v := zL 0) hx hb dX11_dynasty_2 (by decide +kernel) ?_
  refine zv_ldc2 hx hb 2 (by decide +kernel) hown (hts (.constantLong RX11 261 (2)) (List.mem_of_getElem? (i := 1) rfl)) dX11_dynasty_3 ?_
  obtain ⟨r6, h6, hf⟩ := bd_s hf
  replace hf := bt_s hf
  refine gSi (As := [.long (zL x1), .long (zL 0), .long (zL 2)]) (rest := []) C hw (tX11_in h6) (va_cwS 3 hts gX11_dynasty_X11_in rfl rfl rfl (by decide +kernel) ⟨Nat.le_of_ble_eq_true rfl, Nat.le_of_ble_eq_true rfl⟩) rfl hl.1 rfl (Nat.le_of_ble_eq_true rfl) dX11_dynasty_6 (fun H locs hw => ?_)
  obtain ⟨hg9, hf⟩ := gd_s hf
  refine zv_if_ne (tgt := 15) hx hb hg9 dX11_dynasty_9 (by decide) (fun (c9 : ¬ (r6 = 0)) => ?_) (fun (c9 : r6 = 0) => ?_)
  · rw [if_neg c9] at hf
    refine lv_aload_n hx hb dX11_dynasty_15 rfl (lv_at hl 0 rfl) ?_
    obtain ⟨r16, h16, hf⟩ := bd_s hf
    replace hf := bt_s hf
    refine gVi (As := []) (rest := []) C hw (tX11_dynastySet h16) (cwV 0 hts gX11_dynasty_X11_dynastySet rfl rfl rfl (by decide +kernel) ⟨Nat.le_of_ble_eq_true rfl, Nat.le_of_ble_eq_true rfl⟩) 11 0 rfl rfl rfl hl.1 rfl (Nat.le_of_ble_eq_true rfl) dX11_dynasty_16 (fun H locs hw => ?_)
    refine lv_istore_n (lv' := [(2, .int (zI r16)), (0, .ref (q 0)), (1, .int (zI x1))]) hx hb dX11_dynasty_19 rfl hl (by decide) rfl (fun ls hl => ?_)
    refine lv_iload_n hx hb dX11_dynasty_20 rfl (lv_at hl 2 rfl) ?_
    obtain ⟨hg21, hf⟩ := gd_s hf
    refine zv_if_ne (tgt := 31) hx hb hg21 dX11_dynasty_21 (by decide) (fun (c21 : ¬ (x1 = 0)) => ?_) (fun (c21 : x1 = 0) => ?_)
    · rw [if_neg c21] at hf
      refine lv_iload_n hx hb dX11_dynasty_31 rfl (lv_at hl 2 rfl) ?_
      refine lv_iconst (v := zI 1) hx hb dX11_dynasty_32 rfl ?_
      obtain ⟨hg33, hf⟩ := gd_s hf
      refine zv_icmp_ne (tgt := 44) hx hb ⟨hg33, by decide⟩ dX11_dynasty_33 (by decide) (fun (c33 : ¬ (x1 = 1)) => ?_) (fun (c33 : x1 = 1) => ?_)
      · rw [if_neg c33] at hf
        refine lv_iload_n hx hb dX11_dynasty_44 rfl (lv_at hl 0 rfl) ?_
        cases hf
        exact hret H locs ls 45 dX11_dynasty_45 hw
      · rw [if_pos c33] at hf
        refine lv_aload_n hx hb dX11_dynasty_36 rfl (lv_at hl 1 rfl) ?_
        refine lv_iload_n hx hb dX11_dynasty_37 rfl (lv_at hl 0 rfl) ?_
        obtain ⟨r38, h38, hf⟩ := bd_s hf
        replace hf := bt_s hf
        refine gVi (As := [.int (zI r16)]) (rest := []) C hw (tX11_minutesOf h38) (cwV 1 hts gX11_dynasty_X11_minutesOf rfl rfl rfl (by decide +kernel) ⟨Nat.le_of_ble_eq_true rfl, Nat.le_of_ble_eq_true rfl⟩) 11 0 rfl rfl rfl hl.1 rfl (Nat.le_of_ble_eq_true rfl) dX11_dynasty_38 (fun H locs hw => ?_)
        refine lv_goto (tgt := 45) hx hb dX11_dynasty_41 (by decide) ?_
        cases hf
        exact hret H locs ls 45 dX11_dynasty_45 hw
    · rw [if_pos c21] at hf
      refine lv_iload_n hx hb dX11_dynasty_24 rfl (lv_at hl 0 rfl) ?_
      obtain ⟨r25, h25, hf⟩ := bd_s hf
      replace hf := bt_s hf
      refine gSi (As := [.int (zI r16)]) (rest := []) C hw (tX11_bits h25) (va_cwS 1 hts gX11_dynasty_X11_bits rfl rfl rfl (by decide +kernel) ⟨Nat.le_of_ble_eq_true rfl, Nat.le_of_ble_eq_true rfl⟩) rfl hl.1 rfl (Nat.le_of_ble_eq_true rfl) dX11_dynasty_25 (fun H locs hw => ?_)
      refine lv_goto (tgt := 45) hx hb dX11_dynasty_28 (by decide) ?_
      cases hf
      exact hret H locs ls 45 dX11_dynasty_45 hw
  · rw [if_pos c9] at hf
    refine zv_ldc hx hb (-1000000002) (by decide +kernel) hown (hts (.constant RX11 105 (-1000000002)) (List.mem_of_getElem? (i := 2) rfl)) dX11_dynasty_12 ?_
    cases hf
    exact hret H locs ls 14 dX11_dynasty_14 hw
set_option maxHeartbeats 4000000 in
set_option maxRecDepth 100000 in
theorem tX11_dynasty {l : Launch} {D : va_G} {A : Nat → Prop} {cI cZ : ClassId} {q : Nat → Nat} {σ : St} {x1 : Int} {r : Int} (hf : pX11_dynasty σ x1 = some r) : Met l yX11_dynasty wsX11_dynasty rmX11_dynasty (va_Pc [.ref (q 0), .int (zI x1)] (CX D (TY cI cZ) A (wM q cI cZ σ))) (QI D (TY cI cZ) A (wM q cI cZ σ) (zI r)) 0 0 A := by
  refine opn (cc := cX11_dynasty) (maxL := 3) (ret := (some .int)) (by decide) rfl (Nat.le_of_ble_eq_true rfl) (fun p e s m below meth c C ls hw hl => ?_)
  have hl : lv_has ls 3 [(0, .ref (q 0)), (1, .int (zI x1))] := hl
  rw [pX11_dynasty] at hf
  exact wX11_dynasty_0 C (rtI C) x1 _ _ ls hw (lv_sub hl [0, 1] rfl) hf
abbrev rmX6_liking_c1 : Room := { frames := 3, cells := 0, slots := 0, locals := 74 }
set_option maxHeartbeats 4000000 in
set_option maxRecDepth 100000 in
theorem wX6_liking_c1_65 {p : Program} {l : Launch} {e : Env} {s : State} {m : MethodId} {args : Array Value} {below : List Frame} {meth : Method} {c : Code} {D : va_G} {A : Nat → Prop} {q : Nat → Nat} {cI cZ : ClassId} {Q : State → Prop} {σ : St} {r : Int} (C : Cx p s m args meth c D (TY cI cZ) cX6_liking (some .int) 6 wsX6_liking RX6) (hret : RtI p l e rmX6_liking_c1 s m args below meth c D A cX6_liking Q (wE q cI cZ σ) (zI r)) (k5 : Int → Int → Int → Option (Int)) (hk5 : ∀ (x2 : Int) (x3 : Int) (x4 : Int) (H : Heap) (locs : List Loc) (ls : Array Slot), Wd D A s (wE q cI cZ σ) H locs → lv_has ls 6 [(0, .ref (q 1)), (1, .ref (q 15)), (2, .int (zI x2)), (3, .int (zI x3)), (4, .int (zI x4))] → k5 x2 x3 x4 = some r → W p l e rmX6_liking_c1 s m args below meth c H locs 0 0 Q (F0 m 5 ls [])) :
    ∀ (x2 : Int) (x4 : Int) (t0 : Int) (t1 : Int) (H : Heap) (locs : List Loc) (ls : Array Slot), Wd D A s (wE q cI cZ σ) H locs → lv_has ls 6 [(0, .ref (q 1)), (1, .ref (q 15)), (2, .int (zI x2)), (4, .int (zI x4))] → pX6_liking_c1_65 k5 σ x2 x4 t0 t1 = some r → W p l e rmX6_liking_c1 s m args below meth c H locs 0 0 Q (F0 m 65 ls [.int (zI t1), .int (zI t0)]) := by
  obtain ⟨hx, hb, hr, hml, hown, hts, hlk, hK, hN⟩ := id C
  intro x2 x4 t0 t1 H locs ls hw hl hf
  rw [pX6_liking_c1_65] at hf
  refine zv_ior hx hb dX6_liking_65 ?_
  refine lv_istore_n (lv' := [(3, .int (zI (zOr t0 t1))), (0, .ref (q 1)), (1, .ref (q 15)), (2, .int (zI x2)), (4, .int (zI x4))]) hx hb dX6_liking_66 rfl hl (by decide) rfl (fun ls hl => ?_)
  refine lv_iinc (v := zI (x4 + 1)) (lv' := [(4, .int (zI (x4 + 1))), (3, .int (zI (zOr t0 t1))), (0, .ref (q 1)), (1, .ref (q 15)), (2, .int (zI x2))]) hx hb dX6_liking_67 hl (k := 4) rfl (zI_add _ _) (by decide) rfl (fun ls hl => ?_)
  refine lv_goto (tgt := 5) hx hb dX6_liking_70 (by decide) ?_
  exact hk5 x2 (zOr t0 t1) (x4 + 1) H locs ls hw (lv_sub hl [2, 3, 4, 1, 0] rfl) hf
set_option maxHeartbeats 4000000 in
set_option maxRecDepth 100000 in
theorem wX6_liking_c1_49 {p : Program} {l : Launch} {e : Env} {s : State} {m : MethodId} {args : Array Value} {below : List Frame} {meth : Method} {c : Code} {D : va_G} {A : Nat → Prop} {q : Nat → Nat} {cI cZ : ClassId} {Q : State → Prop} {σ : St} {r : Int} (C : Cx p s m args meth c D (TY cI cZ) cX6_liking (some .int) 6 wsX6_liking RX6) (hret : RtI p l e rmX6_liking_c1 s m args below meth c D A cX6_liking Q (wE q cI cZ σ) (zI r)) (k5 : Int → Int → Int → Option (Int)) (hk5 : ∀ (x2 : Int) (x3 : Int) (x4 : Int) (H : Heap) (locs : List Loc) (ls : Array Slot), Wd D A s (wE q cI cZ σ) H locs → lv_has ls 6 [(0, .ref (q 1)), (1, .ref (q 15)), (2, .int (zI x2)), (3, .int (zI x3)), (4, .int (zI x4))] → k5 x2 x3 x4 = some r → W p l e rmX6_liking_c1 s m args below meth c H locs 0 0 Q (F0 m 5 ls [])) :
    ∀ (x2 : Int) (x3 : Int) (x4 : Int) (t0 : Int) (H : Heap) (locs : List Loc) (ls : Array Slot), Wd D A s (wE q cI cZ σ) H locs → lv_has ls 6 [(0, .ref (q 1)), (1, .ref (q 15)), (2, .int (zI x2)), (3, .int (zI x3)), (4, .int (zI x4))] → pX6_liking_c1_49 k5 σ x2 x3 x4 t0 = some r → W p l e rmX6_liking_c1 s m args below meth c H locs 0 0 Q (F0 m 49 ls [.int (zI t0)]) := by
  obtain ⟨hx, hb, hr, hml, hown, hts, hlk, hK, hN⟩ := id C
  intro x2 x3 x4 t0 H locs ls hw hl hf
  rw [pX6_liking_c1_49] at hf
  refine lv_istore (lv' := [(5, .int (zI t0)), (0, .ref (q 1)), (1, .ref (q 15)), (2, .int (zI x2)), (3, .int (zI x3)), (4, .int (zI x4))]) hx hb dX6_liking_49 hl (by decide) rfl (fun ls hl => ?_)
  refine lv_iload_n hx hb dX6_liking_51 rfl (lv_at hl 4 rfl) ?_
  refine lv_iload hx hb dX6_liking_52 (lv_at hl 0 rfl) ?_
  obtain ⟨hg54, hf⟩ := gd_s hf
  refine zv_if_eq (tgt := 64) hx hb hg54 dX6_liking_54 (by decide) (fun (c54 : t0 = 0) => ?_) (fun (c54 : ¬ (t0 = 0)) => ?_)
  · rw [if_pos c54] at hf
    refine lv_iconst (v := zI 0) hx hb dX6_liking_64 rfl ?_
    exact wX6_liking_c1_65 C hret _ hk5 x2 x4 x3 0 H locs ls hw (lv_sub hl [1, 2, 3, 5] rfl) hf
  · rw [if_neg c54] at hf
    refine lv_iconst (v := zI 1) hx hb dX6_liking_57 rfl ?_
    refine lv_iload hx hb dX6_liking_58 (lv_at hl 5 rfl) ?_
    refine zv_ishl hx hb dX6_liking_60 ?_
    refine lv_goto (tgt := 65) hx hb dX6_liking_61 (by decide) ?_
    exact wX6_liking_c1_65 C hret _ hk5 x2 x4 x3 (zShl 1 x4) H locs ls hw (lv_sub hl [1, 2, 3, 5] rfl) hf
set_option maxHeartbeats 4000000 in
set_option maxRecDepth 100000 in
theorem wX6_liking_c1_48 {p : Program} {l : Launch} {e : Env} {s : State} {m : MethodId} {args : Array Value} {below : List Frame} {meth : Method} {c : Code} {D : va_G} {A : Nat → Prop} {q : Nat → Nat} {cI cZ : ClassId} {Q : State → Prop} {σ : St} {r : Int} (C : Cx p s m args meth c D (TY cI cZ) cX6_liking (some .int) 6 wsX6_liking RX6) (hret : RtI p l e rmX6_liking_c1 s m args below meth c D A cX6_liking Q (wE q cI cZ σ) (zI r)) (k5 : Int → Int → Int → Option (Int)) (hk5 : ∀ (x2 : Int) (x3 : Int) (x4 : Int) (H : Heap) (locs : List Loc) (ls : Array Slot), Wd D A s (wE q cI cZ σ) H locs → lv_has ls 6 [(0, .ref (q 1)), (1, .ref (q 15)), (2, .int (zI x2)), (3, .int (zI x3)), (4, .int (zI x4))] → k5 x2 x3 x4 = some r → W p l e rmX6_liking_c1 s m args below meth c H locs 0 0 Q (F0 m 5 ls [])) :
    ∀ (x2 : Int) (x3 : Int) (x4 : Int) (H : Heap) (locs : List Loc) (ls : Array Slot), Wd D A s (wE q cI cZ σ) H locs → lv_has ls 6 [(0, .ref (q 1)), (1, .ref (q 15)), (2, .int (zI x2)), (3, .int (zI x3)), (4, .int (zI x4))] → pX6_liking_c1_48 k5 σ x2 x3 x4 = some r → W p l e rmX6_liking_c1 s m args below meth c H locs 0 0 Q (F0 m 48 ls []) := by
  obtain ⟨hx, hb, hr, hml, hown, hts, hlk, hK, hN⟩ := id C
  intro x2 x3 x4 H locs ls hw hl hf
  rw [pX6_liking_c1_48] at hf
  refine lv_iconst (v := zI 0) hx hb dX6_liking_48 rfl ?_
  exact wX6_liking_c1_49 C hret _ hk5 x2 x3 x4 0 H locs ls hw (lv_sub hl [0, 1, 2, 3, 4] rfl) hf
set_option maxHeartbeats 4000000 in
set_option maxRecDepth 100000 in
theorem wX6_liking_c1_5 {p : Program} {l : Launch} {e : Env} {s : State} {m : MethodId} {args : Array Value} {below : List Frame} {meth : Method} {c : Code} {D : va_G} {A : Nat → Prop} {q : Nat → Nat} {cI cZ : ClassId} {Q : State → Prop} {σ : St} {r : Int} (C : Cx p s m args meth c D (TY cI cZ) cX6_liking (some .int) 6 wsX6_liking RX6) (hret : RtI p l e rmX6_liking_c1 s m args below meth c D A cX6_liking Q (wE q cI cZ σ) (zI r)) :
    ∀ (n : Nat) (x2 : Int) (x3 : Int) (x4 : Int) (H : Heap) (locs : List Loc) (ls : Array Slot), Wd D A s (wE q cI cZ σ) H locs → lv_has ls 6 [(0, .ref (q 1)), (1, .ref (q 15)), (2, .int (zI x2)), (3, .int (zI x3)), (4, .int (zI x4))] → pX6_liking_c1_5 σ n x2 x3 x4 = some r → W p l e rmX6_liking_c1 s m args below meth c H locs 0 0 Q (F0 m 5 ls []) := by
  obtain ⟨hx, hb, hr, hml, hown, hts, hlk, hK, hN⟩ := id C
  intro n
  induction n with
  | zero =>
    intro x2 x3 x4 H locs ls hw hl hf
    exact absurd (show (none : Option (Int)) = some r from hf) (by simp)
  | succ n ih =>
    intro x2 x3 x4 H locs ls hw hl hf
    rw [pX6_liking_c1_5] at hf
    refine lv_iload hx hb dX6_liking_5 (lv_at hl 4 rfl) ?_
    refine lv_bipush (v := zI 7) hx hb dX6_liking_7 (by decide +kernel) ?_
    obtain ⟨hg9, hf⟩ := gd_s hf
    refine zv_icmp_ge (tgt := 73) hx hb ⟨hg9, by decide⟩ dX6_liking_9 (by decide) (fun (c9 : 7 ≤ x4) => ?_) (fun (c9 : ¬ (7 ≤ x4)) => ?_)
    · rw [if_pos c9] at hf
      refine lv_iload_n hx hb dX6_liking_73 rfl (lv_at hl 3 rfl) ?_
      cases hf
      exact hret H locs ls 74 dX6_liking_74 hw
    · rw [if_neg c9] at hf
      refine lv_aload_n hx hb dX6_liking_12 rfl (lv_at hl 1 rfl) ?_
      refine lv_iload hx hb dX6_liking_13 (lv_at hl 4 rfl) ?_
      obtain ⟨r15, h15, hf⟩ := bd_s hf
      replace hf := bt_s hf
      refine gVi (As := [.int (zI x4)]) (rest := []) C hw (tX4_stateOf h15) (cwV 1 hts gX6_liking_X4_stateOf rfl rfl rfl (by decide +kernel) ⟨Nat.le_of_ble_eq_true rfl, Nat.le_of_ble_eq_true rfl⟩) 4 15 rfl rfl rfl hl.1 rfl (Nat.le_of_ble_eq_true rfl) dX6_liking_15 (fun H locs hw => ?_)
      refine lv_iconst (v := zI 2) hx hb dX6_liking_18 rfl ?_
      obtain ⟨hg19, hf⟩ := gd_s hf
      refine zv_icmp_ne (tgt := 48) hx hb ⟨hg19, by decide⟩ dX6_liking_19 (by decide) (fun (c19 : ¬ (r15 = 2)) => ?_) (fun (c19 : r15 = 2) => ?_)
      · rw [if_neg c19] at hf
        exact wX6_liking_c1_48 C hret _ ih x2 x3 x4 H locs ls hw (lv_sub hl [0, 1, 2, 3, 4] rfl) hf
      · rw [if_pos c19] at hf
        refine lv_aload_n hx hb dX6_liking_22 rfl (lv_at hl 1 rfl) ?_
        refine lv_iload hx hb dX6_liking_23 (lv_at hl 4 rfl) ?_
        obtain ⟨r25, h25, hf⟩ := bd_s hf
        replace hf := bt_s hf
        refine gVi (As := [.int (zI x4)]) (rest := []) C hw (tX4_hardnessOf h25) (cwV 1 hts gX6_liking_X4_hardnessOf rfl rfl rfl (by decide +kernel) ⟨Nat.le_of_ble_eq_true rfl, Nat.le_of_ble_eq_true rfl⟩) 4 15 rfl rfl rfl hl.1 rfl (Nat.le_of_ble_eq_true rfl) dX6_liking_25 (fun H locs hw => ?_)
        refine lv_aload_n hx hb dX6_liking_28 rfl (lv_at hl 0 rfl) ?_
        refine lv_iload_n hx hb dX6_liking_29 rfl (lv_at hl 2 rfl) ?_
        obtain ⟨r30, h30, hf⟩ := bd_s hf
        replace hf := bt_s hf
        refine gVi (As := [.int (zI x2)]) (rest := [.int (zI r25)]) C hw (tX8_softestFor_c1 h30) (cwV 1 hts gX6_liking_X8_softestFor rfl rfl rfl (by decide +kernel) ⟨Nat.le_of_ble_eq_true rfl, Nat.le_of_ble_eq_true rfl⟩) 8 1 rfl rfl rfl hl.1 rfl (Nat.le_of_ble_eq_true rfl) dX6_liking_30 (fun H locs hw => ?_)
        refine lv_aload_n hx hb dX6_liking_33 rfl (lv_at hl 0 rfl) ?_
        refine lv_iload_n hx hb dX6_liking_34 rfl (lv_at hl 2 rfl) ?_
        obtain ⟨r35, h35, hf⟩ := bd_s hf
        replace hf := bt_s hf
        refine gVi (As := [.int (zI x2)]) (rest := [.int (zI r30), .int (zI r25)]) C hw (tX8_hardestFor_c1 h35) (cwV 1 hts gX6_liking_X8_hardestFor rfl rfl rfl (by decide +kernel) ⟨Nat.le_of_ble_eq_true rfl, Nat.le_of_ble_eq_true rfl⟩) 8 1 rfl rfl rfl hl.1 rfl (Nat.le_of_ble_eq_true rfl) dX6_liking_35 (fun H locs hw => ?_)
        obtain ⟨r38, h38, hf⟩ := bd_s hf
        replace hf := bt_s hf
        refine gSNi (As := [.int (zI r25), .int (zI r30), .int (zI r35)]) (rest := []) C hw (tX10_isWithin h38) ⟨va_cnB 3 hts gX6_liking_X10_isWithin_n40 rfl rfl rfl (hN (.methodLinkNest "EggThrones$Sharing" 40 ⟨"EggThrones", "isWithin", "(III)Z"⟩ "EggThrones") (by decide +kernel)) (hts (.initialized RX10) (List.mem_of_getElem? (i := 53) rfl)) (by decide +kernel) ⟨Nat.le_of_ble_eq_true rfl, Nat.le_of_ble_eq_true rfl⟩, (hts (.static yX10_isWithin) (List.mem_of_getElem? (i := 52) rfl)), trivial⟩ rfl hl.1 rfl (Nat.le_of_ble_eq_true rfl) dX6_liking_38 (fun H locs hw => ?_)
        obtain ⟨hg41, hf⟩ := gd_s hf
        refine zv_if_eq (tgt := 48) hx hb hg41 dX6_liking_41 (by decide) (fun (c41 : r38 = 0) => ?_) (fun (c41 : ¬ (r38 = 0)) => ?_)
        · rw [if_pos c41] at hf
          exact wX6_liking_c1_48 C hret _ ih x2 x3 x4 H locs ls hw (lv_sub hl [0, 1, 2, 3, 4] rfl) hf
        · rw [if_neg c41] at hf
          refine lv_iconst (v := zI 1) hx hb dX6_liking_44 rfl ?_
          refine lv_goto (tgt := 49) hx hb dX6_liking_45 (by decide) ?_
          exact wX6_liking_c1_49 C hret _ ih x2 x3 x4 1 H locs ls hw (lv_sub hl [0, 1, 2, 3, 4] rfl) hf
set_option maxHeartbeats 4000000 in
set_option maxRecDepth 100000 in
theorem wX6_liking_c1_0 {p : Program} {l : Launch} {e : Env} {s : State} {m : MethodId} {args : Array Value} {below : List Frame} {meth : Method} {c : Code} {D : va_G} {A : Nat → Prop} {q : Nat → Nat} {cI cZ : ClassId} {Q : State → Prop} {σ : St} {r : Int} (C : Cx p s m args meth c D (TY cI cZ) cX6_liking (some .int) 6 wsX6_liking RX6) (hret : RtI p l e rmX6_liking_c1 s m args below meth c D A cX6_liking Q (wE q cI cZ σ) (zI r)) :
    ∀ (x2 : Int) (H : Heap) (locs : List Loc) (ls : Array Slot), Wd D A s (wE q cI cZ σ) H locs → lv_has ls 6 [(0, .ref (q 1)), (1, .ref (q 15)), (2, .int (zI x2))] → pX6_liking_c1_0 σ x2 = some r → W p l e rmX6_liking_c1 s m args below meth c H locs 0 0 Q (F0 m 0 ls []) := by
  obtain ⟨hx, hb, hr, hml, hown, hts, hlk, hK, hN⟩ := id C
  intro x2 H locs ls hw hl hf
  rw [pX6_liking_c1_0] at hf
  refine lv_iconst (v := zI 0) hx hb dX6_liking_0 rfl ?_
  refine lv_istore_n (lv' := [(3, .int (zI 0)), (0, .ref (q 1)), (1, .ref (q 15)), (2, .int (zI x2))]) hx hb dX6_liking_1 rfl hl (by decide) rfl (fun ls hl => ?_)
  refine lv_iconst (v := zI 0) hx hb dX6_liking_2 rfl ?_
  refine lv_istore (lv' := [(4, .int (zI 0)), (3, .int (zI 0)), (0, .ref (q 1)), (1, .ref (q 15)), (2, .int (zI x2))]) hx hb dX6_liking_3 hl (by decide) rfl (fun ls hl => ?_)
  exact wX6_liking_c1_5 C hret FU x2 0 0 H locs ls hw (lv_sub hl [2, 3, 4, 1, 0] rfl) hf
set_option maxHeartbeats 4000000 in
set_option maxRecDepth 100000 in
theorem tX6_liking_c1 {l : Launch} {D : va_G} {A : Nat → Prop} {cI cZ : ClassId} {q : Nat → Nat} {σ : St} {x2 : Int} {r : Int} (hf : pX6_liking_c1 σ x2 = some r) : Met l yX6_liking wsX6_liking rmX6_liking_c1 (va_Pc [.ref (q 1), .ref (q 15), .int (zI x2)] (CX D (TY cI cZ) A (wE q cI cZ σ))) (QI D (TY cI cZ) A (wE q cI cZ σ) (zI r)) 0 0 A := by
  refine opn (cc := cX6_liking) (maxL := 6) (ret := (some .int)) (by decide) rfl (Nat.le_of_ble_eq_true rfl) (fun p e s m below meth c C ls hw hl => ?_)
  have hl : lv_has ls 6 [(0, .ref (q 1)), (1, .ref (q 15)), (2, .int (zI x2))] := hl
  rw [pX6_liking_c1] at hf
  exact wX6_liking_c1_0 C (rtI C) x2 _ _ ls hw (lv_sub hl [0, 1, 2] rfl) hf
abbrev rmX6_ask_c1 : Room := { frames := 4, cells := 0, slots := 0, locals := 99 }
set_option maxHeartbeats 4000000 in
set_option maxRecDepth 100000 in
theorem wX6_ask_c1_30 {p : Program} {l : Launch} {e : Env} {s : State} {m : MethodId} {args : Array Value} {below : List Frame} {meth : Method} {c : Code} {D : va_G} {A : Nat → Prop} {q : Nat → Nat} {cI cZ : ClassId} {Q : State → Prop} {τ : St} (C : Cx p s m args meth c D (TY cI cZ) cX6_ask none 4 wsX6_ask RX6) (hret : RtV p l e rmX6_ask_c1 s m args below meth c D A cX6_ask Q (wE q cI cZ τ)) (k2 : St → Int → Option (St)) (hk2 : ∀ (σ : St) (x3 : Int) (H : Heap) (locs : List Loc) (ls : Array Slot), Wd D A s (wE q cI cZ σ) H locs → lv_has ls 4 [(0, .ref (q 36)), (1, .ref (q 1)), (2, .ref (q 15)), (3, .int (zI x3))] → k2 σ x3 = some τ → W p l e rmX6_ask_c1 s m args below meth c H locs 0 0 Q (F0 m 2 ls [])) :
    ∀ (σ : St) (x3 : Int) (t1 : Int) (t2 : Int) (H : Heap) (locs : List Loc) (ls : Array Slot), Wd D A s (wE q cI cZ σ) H locs → lv_has ls 4 [(0, .ref (q 36)), (1, .ref (q 1)), (2, .ref (q 15)), (3, .int (zI x3))] → pX6_ask_c1_30 k2 σ x3 t1 t2 = some τ → W p l e rmX6_ask_c1 s m args below meth c H locs 0 0 Q (F0 m 30 ls [.int (zI t2), .int (zI t1), .ref (q 37)]) := by
  obtain ⟨hx, hb, hr, hml, hown, hts, hlk, hK, hN⟩ := id C
  intro σ x3 t1 t2 H locs ls hw hl hf
  rw [pX6_ask_c1_30] at hf
  obtain ⟨hi30, hf⟩ := gd_s hf
  refine zv_iast (D := D) hx hb hK hw.1 hw.2.1 hw.2.2 37 0 rfl rfl hi30 (by decide) dX6_ask_30 (fun H locs hP hD hS => ?_)
  have hw : Wd D A s (wE q cI cZ (sA σ 25 (va_up (σ.2 25) (Int.toNat t1) t2))) H locs := wdaE_25 hP hD hS
  obtain ⟨σ30, e30, hf⟩ := nm_s hf
  replace hf := bt_s hf
  rw [← e30] at hw
  refine lv_iinc (v := zI (x3 + 1)) (lv' := [(3, .int (zI (x3 + 1))), (0, .ref (q 36)), (1, .ref (q 1)), (2, .ref (q 15))]) hx hb dX6_ask_31 hl (k := 3) rfl (zI_add _ _) (by decide) rfl (fun ls hl => ?_)
  refine lv_goto (tgt := 2) hx hb dX6_ask_34 (by decide) ?_
  exact hk2 σ30 (x3 + 1) H locs ls hw (lv_sub hl [1, 2, 3, 0] rfl) hf
set_option maxHeartbeats 4000000 in
set_option maxRecDepth 100000 in
theorem wX6_ask_c1_2 {p : Program} {l : Launch} {e : Env} {s : State} {m : MethodId} {args : Array Value} {below : List Frame} {meth : Method} {c : Code} {D : va_G} {A : Nat → Prop} {q : Nat → Nat} {cI cZ : ClassId} {Q : State → Prop} {τ : St} (C : Cx p s m args meth c D (TY cI cZ) cX6_ask none 4 wsX6_ask RX6) (hret : RtV p l e rmX6_ask_c1 s m args below meth c D A cX6_ask Q (wE q cI cZ τ)) :
    ∀ (n : Nat) (σ : St) (x3 : Int) (H : Heap) (locs : List Loc) (ls : Array Slot), Wd D A s (wE q cI cZ σ) H locs → lv_has ls 4 [(0, .ref (q 36)), (1, .ref (q 1)), (2, .ref (q 15)), (3, .int (zI x3))] → pX6_ask_c1_2 n σ x3 = some τ → W p l e rmX6_ask_c1 s m args below meth c H locs 0 0 Q (F0 m 2 ls []) := by
  obtain ⟨hx, hb, hr, hml, hown, hts, hlk, hK, hN⟩ := id C
  intro n
  induction n with
  | zero =>
    intro σ x3 H locs ls hw hl hf
    exact absurd (show (none : Option (St)) = some τ from hf) (by simp)
  | succ n ih =>
    intro σ x3 H locs ls hw hl hf
    rw [pX6_ask_c1_2] at hf
    refine lv_iload_n hx hb dX6_ask_2 rfl (lv_at hl 3 rfl) ?_
    refine lv_iconst (v := zI 5) hx hb dX6_ask_3 rfl ?_
    obtain ⟨hg4, hf⟩ := gd_s hf
    refine zv_icmp_ge (tgt := 37) hx hb ⟨hg4, by decide⟩ dX6_ask_4 (by decide) (fun (c4 : 5 ≤ x3) => ?_) (fun (c4 : ¬ (5 ≤ x3)) => ?_)
    · rw [if_pos c4] at hf
      cases hf
      exact hret H locs ls 37 dX6_ask_37 hw
    · rw [if_neg c4] at hf
      refine lv_aload_n hx hb dX6_ask_7 rfl (lv_at hl 0 rfl) ?_
      refine va_get (D := D) (ci := 6) (v := .ref (q 37)) (C := RX6) (T := TX6) (N := 1) hx hb hts (fun _ h => List.mem_cons_of_mem _ (List.mem_append_left _ (List.mem_append_left _ (List.mem_append_right _ h)))) hown hK hw.1 36 rfl rfl 0 (by decide) (hts (.fieldLink RX6 9 "EggThrones$Sharing" "likings" "[I") (List.mem_of_getElem? (i := 1) rfl)) (fun _ h9 => h9) rfl dX6_ask_8 ?_
      refine lv_iload_n hx hb dX6_ask_11 rfl (lv_at hl 3 rfl) ?_
      refine lv_aload_n hx hb dX6_ask_12 rfl (lv_at hl 1 rfl) ?_
      refine lv_iload_n hx hb dX6_ask_13 rfl (lv_at hl 3 rfl) ?_
      obtain ⟨r14, h14, hf⟩ := bd_s hf
      replace hf := bt_s hf
      refine gVi (As := [.int (zI x3)]) (rest := [.int (zI x3), .ref (q 37)]) C hw (tX8_hasEater_c1 h14) (cwV 1 hts gX6_ask_X8_hasEater rfl rfl rfl (by decide +kernel) ⟨Nat.le_of_ble_eq_true rfl, Nat.le_of_ble_eq_true rfl⟩) 8 1 rfl rfl rfl hl.1 rfl (Nat.le_of_ble_eq_true rfl) dX6_ask_14 (fun H locs hw => ?_)
      obtain ⟨hg17, hf⟩ := gd_s hf
      refine zv_if_eq (tgt := 29) hx hb hg17 dX6_ask_17 (by decide) (fun (c17 : r14 = 0) => ?_) (fun (c17 : ¬ (r14 = 0)) => ?_)
      · rw [if_pos c17] at hf
        refine lv_iconst (v := zI 0) hx hb dX6_ask_29 rfl ?_
        exact wX6_ask_c1_30 C hret _ ih σ x3 x3 0 H locs ls hw (lv_sub hl [0, 1, 2, 3] rfl) hf
      · rw [if_neg c17] at hf
        refine lv_aload_n hx hb dX6_ask_20 rfl (lv_at hl 1 rfl) ?_
        refine lv_aload_n hx hb dX6_ask_21 rfl (lv_at hl 2 rfl) ?_
        refine lv_iload_n hx hb dX6_ask_22 rfl (lv_at hl 3 rfl) ?_
        obtain ⟨r23, h23, hf⟩ := bd_s hf
        replace hf := bt_s hf
        refine gSi (As := [.ref (q 1), .ref (q 15), .int (zI x3)]) (rest := [.int (zI x3), .ref (q 37)]) C hw (tX6_liking_c1 h23) (va_cwS 3 hts gX6_ask_X6_liking rfl rfl rfl (by decide +kernel) ⟨Nat.le_of_ble_eq_true rfl, Nat.le_of_ble_eq_true rfl⟩) rfl hl.1 rfl (Nat.le_of_ble_eq_true rfl) dX6_ask_23 (fun H locs hw => ?_)
        refine lv_goto (tgt := 30) hx hb dX6_ask_26 (by decide) ?_
        exact wX6_ask_c1_30 C hret _ ih σ x3 x3 r23 H locs ls hw (lv_sub hl [0, 1, 2, 3] rfl) hf
set_option maxHeartbeats 4000000 in
set_option maxRecDepth 100000 in
theorem wX6_ask_c1_0 {p : Program} {l : Launch} {e : Env} {s : State} {m : MethodId} {args : Array Value} {below : List Frame} {meth : Method} {c : Code} {D : va_G} {A : Nat → Prop} {q : Nat → Nat} {cI cZ : ClassId} {Q : State → Prop} {τ : St} (C : Cx p s m args meth c D (TY cI cZ) cX6_ask none 4 wsX6_ask RX6) (hret : RtV p l e rmX6_ask_c1 s m args below meth c D A cX6_ask Q (wE q cI cZ τ)) :
    ∀ (σ : St) (H : Heap) (locs : List Loc) (ls : Array Slot), Wd D A s (wE q cI cZ σ) H locs → lv_has ls 4 [(0, .ref (q 36)), (1, .ref (q 1)), (2, .ref (q 15))] → pX6_ask_c1_0 σ = some τ → W p l e rmX6_ask_c1 s m args below meth c H locs 0 0 Q (F0 m 0 ls []) := by
  obtain ⟨hx, hb, hr, hml, hown, hts, hlk, hK, hN⟩ := id C
  intro σ H locs ls hw hl hf
  rw [pX6_ask_c1_0] at hf
  refine lv_iconst (v := zI 0) hx hb dX6_ask_0 rfl ?_
  refine lv_istore_n (lv' := [(3, .int (zI 0)), (0, .ref (q 36)), (1, .ref (q 1)), (2, .ref (q 15))]) hx hb dX6_ask_1 rfl hl (by decide) rfl (fun ls hl => ?_)
  exact wX6_ask_c1_2 C hret FU σ 0 H locs ls hw (lv_sub hl [1, 2, 3, 0] rfl) hf
set_option maxHeartbeats 4000000 in
set_option maxRecDepth 100000 in
theorem tX6_ask_c1 {l : Launch} {D : va_G} {A : Nat → Prop} {cI cZ : ClassId} {q : Nat → Nat} {σ : St} {τ : St} (hf : pX6_ask_c1 σ = some τ) : Met l yX6_ask wsX6_ask rmX6_ask_c1 (va_Pc [.ref (q 36), .ref (q 1), .ref (q 15)] (CX D (TY cI cZ) A (wE q cI cZ σ))) (QV D (TY cI cZ) A (wE q cI cZ τ)) 0 0 A := by
  refine opn (cc := cX6_ask) (maxL := 4) (ret := none) (by decide) rfl (Nat.le_of_ble_eq_true rfl) (fun p e s m below meth c C ls hw hl => ?_)
  have hl : lv_has ls 4 [(0, .ref (q 36)), (1, .ref (q 1)), (2, .ref (q 15))] := hl
  rw [pX6_ask_c1] at hf
  exact wX6_ask_c1_0 C (rtV C) σ _ _ ls hw (lv_sub hl [0, 1, 2] rfl) hf
abbrev rmX6_mostPairs_a37 (n : Nat) : Room := { frames := 1 + n, cells := 0, slots := 0, locals := 30 + 60 * n }
set_option maxHeartbeats 4000000 in
set_option maxRecDepth 100000 in
theorem wX6_mostPairs_a37_90 {p : Program} {l : Launch} {e : Env} {s : State} {m : MethodId} {args : Array Value} {below : List Frame} {meth : Method} {c : Code} {D : va_G} {A : Nat → Prop} {q : Nat → Nat} {cI cZ : ClassId} {Q : State → Prop} {σ : St} {r : Int} {d : Nat} (C : Cx p s m args meth c D (TY cI cZ) cX6_mostPairs (some .int) 7 wsX6_mostPairs RX6) (hret : RtI p l e (rmX6_mostPairs_a37 (d + 1)) s m args below meth c D A cX6_mostPairs Q (wE q cI cZ σ) (zI r)) (k44 : Int → Int → Int → Int → Int → Int → Option (Int)) (hk44 : ∀ (x1 : Int) (x2 : Int) (x3 : Int) (x4 : Int) (x5 : Int) (x6 : Int) (H : Heap) (locs : List Loc) (ls : Array Slot), Wd D A s (wE q cI cZ σ) H locs → lv_has ls 7 [(0, .ref (q 37)), (1, .int (zI x1)), (2, .int (zI x2)), (3, .int (zI x3)), (4, .int (zI x4)), (5, .int (zI x5)), (6, .int (zI x6))] → k44 x1 x2 x3 x4 x5 x6 = some r → W p l e (rmX6_mostPairs_a37 (d + 1)) s m args below meth c H locs 0 0 Q (F0 m 44 ls [])) :
    ∀ (x1 : Int) (x2 : Int) (x3 : Int) (x4 : Int) (x5 : Int) (x6 : Int) (H : Heap) (locs : List Loc) (ls : Array Slot), Wd D A s (wE q cI cZ σ) H locs → lv_has ls 7 [(0, .ref (q 37)), (1, .int (zI x1)), (2, .int (zI x2)), (3, .int (zI x3)), (4, .int (zI x4)), (5, .int (zI x5)), (6, .int (zI x6))] → pX6_mostPairs_a37_90 k44 σ x1 x2 x3 x4 x5 x6 = some r → W p l e (rmX6_mostPairs_a37 (d + 1)) s m args below meth c H locs 0 0 Q (F0 m 90 ls []) := by
  obtain ⟨hx, hb, hr, hml, hown, hts, hlk, hK, hN⟩ := id C
  intro x1 x2 x3 x4 x5 x6 H locs ls hw hl hf
  rw [pX6_mostPairs_a37_90] at hf
  refine lv_iinc (v := zI (x6 + 1)) (lv' := [(6, .int (zI (x6 + 1))), (0, .ref (q 37)), (1, .int (zI x1)), (2, .int (zI x2)), (3, .int (zI x3)), (4, .int (zI x4)), (5, .int (zI x5))]) hx hb dX6_mostPairs_90 hl (k := 6) rfl (zI_add _ _) (by decide) rfl (fun ls hl => ?_)
  refine lv_goto (tgt := 44) hx hb dX6_mostPairs_93 (by decide) ?_
  exact hk44 x1 x2 x3 x4 x5 (x6 + 1) H locs ls hw (lv_sub hl [1, 2, 3, 4, 5, 6, 0] rfl) hf
set_option maxHeartbeats 4000000 in
set_option maxRecDepth 100000 in
theorem wX6_mostPairs_a37_44 {p : Program} {l : Launch} {e : Env} {s : State} {m : MethodId} {args : Array Value} {below : List Frame} {meth : Method} {c : Code} {D : va_G} {A : Nat → Prop} {q : Nat → Nat} {cI cZ : ClassId} {Q : State → Prop} {σ : St} {r : Int} {d : Nat} (C : Cx p s m args meth c D (TY cI cZ) cX6_mostPairs (some .int) 7 wsX6_mostPairs RX6) (hret : RtI p l e (rmX6_mostPairs_a37 (d + 1)) s m args below meth c D A cX6_mostPairs Q (wE q cI cZ σ) (zI r)) (fr : St → Int → Int → Option (Int)) (hfr : ∀ (σ : St) (x1 : Int) (x2 : Int) (r : Int), fr σ x1 x2 = some r → Met l yX6_mostPairs wsX6_mostPairs (rmX6_mostPairs_a37 d) (va_Pc [.ref (q 37), .int (zI x1), .int (zI x2)] (CX D (TY cI cZ) A (wE q cI cZ σ))) (QI D (TY cI cZ) A (wE q cI cZ σ) (zI r)) 0 0 A) :
    ∀ (n : Nat) (x1 : Int) (x2 : Int) (x3 : Int) (x4 : Int) (x5 : Int) (x6 : Int) (H : Heap) (locs : List Loc) (ls : Array Slot), Wd D A s (wE q cI cZ σ) H locs → lv_has ls 7 [(0, .ref (q 37)), (1, .int (zI x1)), (2, .int (zI x2)), (3, .int (zI x3)), (4, .int (zI x4)), (5, .int (zI x5)), (6, .int (zI x6))] → pX6_mostPairs_a37_44 fr σ n x1 x2 x3 x4 x5 x6 = some r → W p l e (rmX6_mostPairs_a37 (d + 1)) s m args below meth c H locs 0 0 Q (F0 m 44 ls []) := by
  obtain ⟨hx, hb, hr, hml, hown, hts, hlk, hK, hN⟩ := id C
  intro n
  induction n with
  | zero =>
    intro x1 x2 x3 x4 x5 x6 H locs ls hw hl hf
    exact absurd (show (none : Option (Int)) = some r from hf) (by simp)
  | succ n ih =>
    intro x1 x2 x3 x4 x5 x6 H locs ls hw hl hf
    rw [pX6_mostPairs_a37_44] at hf
    refine lv_iload hx hb dX6_mostPairs_44 (lv_at hl 6 rfl) ?_
    refine lv_bipush (v := zI 7) hx hb dX6_mostPairs_46 (by decide +kernel) ?_
    obtain ⟨hg48, hf⟩ := gd_s hf
    refine zv_icmp_ge (tgt := 96) hx hb ⟨hg48, by decide⟩ dX6_mostPairs_48 (by decide) (fun (c48 : 7 ≤ x6) => ?_) (fun (c48 : ¬ (7 ≤ x6)) => ?_)
    · rw [if_pos c48] at hf
      refine lv_iload_n hx hb dX6_mostPairs_96 rfl (lv_at hl 3 rfl) ?_
      cases hf
      exact hret H locs ls 97 dX6_mostPairs_97 hw
    · rw [if_neg c48] at hf
      refine lv_iload_n hx hb dX6_mostPairs_51 rfl (lv_at hl 3 rfl) ?_
      refine lv_iload hx hb dX6_mostPairs_52 (lv_at hl 5 rfl) ?_
      obtain ⟨hg54, hf⟩ := gd_s hf
      refine zv_icmp_ge (tgt := 96) hx hb hg54 dX6_mostPairs_54 (by decide) (fun (c54 : x5 ≤ x3) => ?_) (fun (c54 : ¬ (x5 ≤ x3)) => ?_)
      · rw [if_pos c54] at hf
        refine lv_iload_n hx hb dX6_mostPairs_96 rfl (lv_at hl 3 rfl) ?_
        cases hf
        exact hret H locs ls 97 dX6_mostPairs_97 hw
      · rw [if_neg c54] at hf
        refine lv_iload hx hb dX6_mostPairs_57 (lv_at hl 4 rfl) ?_
        refine lv_iload hx hb dX6_mostPairs_59 (lv_at hl 6 rfl) ?_
        refine zv_ishr hx hb dX6_mostPairs_61 ?_
        refine lv_iconst (v := zI 1) hx hb dX6_mostPairs_62 rfl ?_
        refine zv_iand hx hb dX6_mostPairs_63 ?_
        refine lv_iconst (v := zI 1) hx hb dX6_mostPairs_64 rfl ?_
        obtain ⟨hg65, hf⟩ := gd_s hf
        refine zv_icmp_ne (tgt := 90) hx hb ⟨hg65, by decide⟩ dX6_mostPairs_65 (by decide) (fun (c65 : ¬ ((zAnd (zShr x4 x6) 1) = 1)) => ?_) (fun (c65 : (zAnd (zShr x4 x6) 1) = 1) => ?_)
        · rw [if_neg c65] at hf
          exact wX6_mostPairs_a37_90 C hret _ ih x1 x2 x3 x4 x5 x6 H locs ls hw (lv_sub hl [0, 1, 2, 3, 4, 5, 6] rfl) hf
        · rw [if_pos c65] at hf
          refine lv_iload_n hx hb dX6_mostPairs_68 rfl (lv_at hl 3 rfl) ?_
          refine lv_iconst (v := zI 1) hx hb dX6_mostPairs_69 rfl ?_
          refine lv_aload_n hx hb dX6_mostPairs_70 rfl (lv_at hl 0 rfl) ?_
          refine lv_iload_n hx hb dX6_mostPairs_71 rfl (lv_at hl 1 rfl) ?_
          refine lv_iconst (v := zI 1) hx hb dX6_mostPairs_72 rfl ?_
          refine zv_iadd hx hb dX6_mostPairs_73 ?_
          refine lv_iload_n hx hb dX6_mostPairs_74 rfl (lv_at hl 2 rfl) ?_
          refine lv_iconst (v := zI 1) hx hb dX6_mostPairs_75 rfl ?_
          refine lv_iload hx hb dX6_mostPairs_76 (lv_at hl 6 rfl) ?_
          refine zv_ishl hx hb dX6_mostPairs_78 ?_
          refine lv_iconst (v := zI (-1)) hx hb dX6_mostPairs_79 rfl ?_
          refine zv_ixor hx hb dX6_mostPairs_80 ?_
          refine zv_iand hx hb dX6_mostPairs_81 ?_
          obtain ⟨r82, h82, hf⟩ := bd_s hf
          replace hf := bt_s hf
          refine gSi (As := [.ref (q 37), .int (zI (x1 + 1)), .int (zI (zAnd x2 (zXor (zShl 1 x6) (-1))))]) (rest := [.int (zI 1), .int (zI x3)]) C hw (hfr _ _ _ _ h82) (va_cwS 3 hts gX6_mostPairs_X6_mostPairs rfl rfl rfl (by decide +kernel) ⟨by show _ + d + 1 ≤ _ + (d + 1); omega, by show 8 + (_ + 11) + (_ + 60 * d) ≤ _ + 60 * (d + 1); omega⟩) rfl hl.1 rfl (Nat.le_of_ble_eq_true rfl) dX6_mostPairs_82 (fun H locs hw => ?_)
          refine zv_iadd hx hb dX6_mostPairs_85 ?_
          obtain ⟨hg86, hf⟩ := gd_s hf
          refine zv_mmax (rest := []) hx hb (hml.trans hl.1.symm) hown (hts (.methodLink RX6 67 Lib.Math.max.name) (List.mem_of_getElem? (i := 5) rfl)) (hts (.static Lib.Math.max.name) (List.mem_of_getElem? (i := 6) rfl)) (hts (.initialized "java/lang/Math") (List.mem_of_getElem? (i := 3) rfl)) (hts (.code Lib.Math.max.name Lib.Math.max.code 2 (some .int)) (List.mem_of_getElem? (i := 7) rfl)) (by show 1 ≤ _ + (d + 1); omega) (by simp only [rmX6_mostPairs_a37]; first | omega | (show _ ≤ _ + 60 * (d + 1); exact Nat.le_trans (Nat.le_of_ble_eq_true (show Nat.ble _ 60 = true from rfl)) (by omega))) (Nat.zero_le _) (Nat.zero_le _) hg86 dX6_mostPairs_86 ?_
          refine lv_istore_n (lv' := [(3, .int (zI (max x3 (1 + r82)))), (0, .ref (q 37)), (1, .int (zI x1)), (2, .int (zI x2)), (4, .int (zI x4)), (5, .int (zI x5)), (6, .int (zI x6))]) hx hb dX6_mostPairs_89 rfl hl (by decide) rfl (fun ls hl => ?_)
          exact wX6_mostPairs_a37_90 C hret _ ih x1 x2 (max x3 (1 + r82)) x4 x5 x6 H locs ls hw (lv_sub hl [1, 2, 3, 0, 4, 5, 6] rfl) hf
set_option maxHeartbeats 4000000 in
set_option maxRecDepth 100000 in
theorem wX6_mostPairs_a37_0 {p : Program} {l : Launch} {e : Env} {s : State} {m : MethodId} {args : Array Value} {below : List Frame} {meth : Method} {c : Code} {D : va_G} {A : Nat → Prop} {q : Nat → Nat} {cI cZ : ClassId} {Q : State → Prop} {σ : St} {r : Int} {d : Nat} (C : Cx p s m args meth c D (TY cI cZ) cX6_mostPairs (some .int) 7 wsX6_mostPairs RX6) (hret : RtI p l e (rmX6_mostPairs_a37 (d + 1)) s m args below meth c D A cX6_mostPairs Q (wE q cI cZ σ) (zI r)) (fr : St → Int → Int → Option (Int)) (hfr : ∀ (σ : St) (x1 : Int) (x2 : Int) (r : Int), fr σ x1 x2 = some r → Met l yX6_mostPairs wsX6_mostPairs (rmX6_mostPairs_a37 d) (va_Pc [.ref (q 37), .int (zI x1), .int (zI x2)] (CX D (TY cI cZ) A (wE q cI cZ σ))) (QI D (TY cI cZ) A (wE q cI cZ σ) (zI r)) 0 0 A) :
    ∀ (x1 : Int) (x2 : Int) (H : Heap) (locs : List Loc) (ls : Array Slot), Wd D A s (wE q cI cZ σ) H locs → lv_has ls 7 [(0, .ref (q 37)), (1, .int (zI x1)), (2, .int (zI x2))] → pX6_mostPairs_a37_0 fr σ x1 x2 = some r → W p l e (rmX6_mostPairs_a37 (d + 1)) s m args below meth c H locs 0 0 Q (F0 m 0 ls []) := by
  obtain ⟨hx, hb, hr, hml, hown, hts, hlk, hK, hN⟩ := id C
  intro x1 x2 H locs ls hw hl hf
  rw [pX6_mostPairs_a37_0] at hf
  refine lv_iload_n hx hb dX6_mostPairs_0 rfl (lv_at hl 1 rfl) ?_
  obtain ⟨hg1, hf⟩ := gd_s hf
  refine zv_if_lt (tgt := 10) hx hb hg1 dX6_mostPairs_1 (by decide) (fun (c1 : x1 < 0) => ?_) (fun (c1 : ¬ (x1 < 0)) => ?_)
  · rw [if_pos c1] at hf
    refine lv_iconst (v := zI 0) hx hb dX6_mostPairs_10 rfl ?_
    cases hf
    exact hret H locs ls 11 dX6_mostPairs_11 hw
  · rw [if_neg c1] at hf
    refine lv_iload_n hx hb dX6_mostPairs_4 rfl (lv_at hl 1 rfl) ?_
    refine lv_aload_n hx hb dX6_mostPairs_5 rfl (lv_at hl 0 rfl) ?_
    refine va_alen (v := zI 5) (D := D) hx hb hK hw.1 37 0 rfl rfl (by show Int32.ofNat 5 = zI 5; decide +kernel) dX6_mostPairs_6 ?_
    obtain ⟨hg7, hf⟩ := gd_s hf
    refine zv_icmp_lt (tgt := 12) hx hb ⟨hg7, by decide⟩ dX6_mostPairs_7 (by decide) (fun (c7 : x1 < 5) => ?_) (fun (c7 : ¬ (x1 < 5)) => ?_)
    · rw [if_pos c7] at hf
      refine lv_aload_n hx hb dX6_mostPairs_12 rfl (lv_at hl 0 rfl) ?_
      refine lv_iload_n hx hb dX6_mostPairs_13 rfl (lv_at hl 1 rfl) ?_
      refine lv_iconst (v := zI 1) hx hb dX6_mostPairs_14 rfl ?_
      refine zv_iadd hx hb dX6_mostPairs_15 ?_
      refine lv_iload_n hx hb dX6_mostPairs_16 rfl (lv_at hl 2 rfl) ?_
      obtain ⟨r17, h17, hf⟩ := bd_s hf
      replace hf := bt_s hf
      refine gSi (As := [.ref (q 37), .int (zI (x1 + 1)), .int (zI x2)]) (rest := []) C hw (hfr _ _ _ _ h17) (va_cwS 3 hts gX6_mostPairs_X6_mostPairs rfl rfl rfl (by decide +kernel) ⟨by show _ + d + 1 ≤ _ + (d + 1); omega, by show 8 + (_ + 11) + (_ + 60 * d) ≤ _ + 60 * (d + 1); omega⟩) rfl hl.1 rfl (Nat.le_of_ble_eq_true rfl) dX6_mostPairs_17 (fun H locs hw => ?_)
      refine lv_istore_n (lv' := [(3, .int (zI r17)), (0, .ref (q 37)), (1, .int (zI x1)), (2, .int (zI x2))]) hx hb dX6_mostPairs_20 rfl hl (by decide) rfl (fun ls hl => ?_)
      refine lv_aload_n hx hb dX6_mostPairs_21 rfl (lv_at hl 1 rfl) ?_
      refine lv_iload_n hx hb dX6_mostPairs_22 rfl (lv_at hl 2 rfl) ?_
      obtain ⟨hi23, hf⟩ := gd_s hf
      refine zv_iald (D := D) hx hb hK hw.1 37 0 rfl rfl hi23 (by decide) dX6_mostPairs_23 ?_
      refine lv_iload_n hx hb dX6_mostPairs_24 rfl (lv_at hl 3 rfl) ?_
      refine zv_iand hx hb dX6_mostPairs_25 ?_
      refine lv_istore (lv' := [(4, .int (zI (zAnd (σ.2 25 (Int.toNat x1)) x2))), (3, .int (zI r17)), (0, .ref (q 37)), (1, .int (zI x1)), (2, .int (zI x2))]) hx hb dX6_mostPairs_26 hl (by decide) rfl (fun ls hl => ?_)
      refine lv_aload_n hx hb dX6_mostPairs_28 rfl (lv_at hl 2 rfl) ?_
      refine va_alen (v := zI 5) (D := D) hx hb hK hw.1 37 0 rfl rfl (by show Int32.ofNat 5 = zI 5; decide +kernel) dX6_mostPairs_29 ?_
      refine lv_iload_n hx hb dX6_mostPairs_30 rfl (lv_at hl 3 rfl) ?_
      refine zv_isub hx hb dX6_mostPairs_31 ?_
      refine lv_iload_n hx hb dX6_mostPairs_32 rfl (lv_at hl 4 rfl) ?_
      obtain ⟨r33, h33, hf⟩ := bd_s hf
      replace hf := bt_s hf
      refine gSi (As := [.int (zI x2)]) (rest := [.int (zI (5 - x1))]) C hw (tJ6_bitCount_0f7a4 h33) (va_cwS 1 hts gX6_mostPairs_J6_bitCount_0f7a4 rfl rfl rfl (by decide +kernel) ⟨by simp only [rmX6_mostPairs_a37, rmJ6_bitCount_0f7a4]; omega, by simp only [rmX6_mostPairs_a37, rmJ6_bitCount_0f7a4]; omega⟩) rfl hl.1 rfl (Nat.le_of_ble_eq_true rfl) dX6_mostPairs_33 (fun H locs hw => ?_)
      obtain ⟨hg36, hf⟩ := gd_s hf
      refine zv_mmin (rest := []) hx hb (hml.trans hl.1.symm) hown (hts (.methodLink RX6 61 Lib.Math.min.name) (List.mem_of_getElem? (i := 1) rfl)) (hts (.static Lib.Math.min.name) (List.mem_of_getElem? (i := 2) rfl)) (hts (.initialized "java/lang/Math") (List.mem_of_getElem? (i := 3) rfl)) (hts (.code Lib.Math.min.name Lib.Math.min.code 2 (some .int)) (List.mem_of_getElem? (i := 4) rfl)) (by show 1 ≤ _ + (d + 1); omega) (by simp only [rmX6_mostPairs_a37]; first | omega | (show _ ≤ _ + 60 * (d + 1); exact Nat.le_trans (Nat.le_of_ble_eq_true (show Nat.ble _ 60 = true from rfl)) (by omega))) (Nat.zero_le _) (Nat.zero_le _) hg36 dX6_mostPairs_36 ?_
      refine lv_istore (lv' := [(5, .int (zI (min (5 - x1) r33))), (4, .int (zI (zAnd (σ.2 25 (Int.toNat x1)) x2))), (3, .int (zI r17)), (0, .ref (q 37)), (1, .int (zI x1)), (2, .int (zI x2))]) hx hb dX6_mostPairs_39 hl (by decide) rfl (fun ls hl => ?_)
      refine lv_iconst (v := zI 0) hx hb dX6_mostPairs_41 rfl ?_
      refine lv_istore (lv' := [(6, .int (zI 0)), (5, .int (zI (min (5 - x1) r33))), (4, .int (zI (zAnd (σ.2 25 (Int.toNat x1)) x2))), (3, .int (zI r17)), (0, .ref (q 37)), (1, .int (zI x1)), (2, .int (zI x2))]) hx hb dX6_mostPairs_42 hl (by decide) rfl (fun ls hl => ?_)
      exact wX6_mostPairs_a37_44 C hret fr hfr FU x1 x2 r17 (zAnd (σ.2 25 (Int.toNat x1)) x2) (min (5 - x1) r33) 0 H locs ls hw (lv_sub hl [4, 5, 6, 3, 2, 1, 0] rfl) hf
    · rw [if_neg c7] at hf
      refine lv_iconst (v := zI 0) hx hb dX6_mostPairs_10 rfl ?_
      cases hf
      exact hret H locs ls 11 dX6_mostPairs_11 hw
set_option maxHeartbeats 4000000 in
set_option maxRecDepth 100000 in
theorem trX6_mostPairs_a37 {l : Launch} {D : va_G} {A : Nat → Prop} {cI cZ : ClassId} {q : Nat → Nat} : ∀ (n : Nat) (σ : St) (x1 : Int) (x2 : Int) (r : Int), pX6_mostPairs_a37 n σ x1 x2 = some r → Met l yX6_mostPairs wsX6_mostPairs (rmX6_mostPairs_a37 n) (va_Pc [.ref (q 37), .int (zI x1), .int (zI x2)] (CX D (TY cI cZ) A (wE q cI cZ σ))) (QI D (TY cI cZ) A (wE q cI cZ σ) (zI r)) 0 0 A := by
  intro n
  induction n with
  | zero =>
    intro σ x1 x2 r hf
    exact absurd (show (none : Option (Int)) = some r from hf) (by simp)
  | succ n ih =>
    intro σ x1 x2 r hf
    refine opn (cc := cX6_mostPairs) (maxL := 7) (ret := (some .int)) (by decide) rfl (Nat.le_of_ble_eq_true rfl) (fun p e s m below meth c C ls hw hl => ?_)
    have hl : lv_has ls 7 [(0, .ref (q 37)), (1, .int (zI x1)), (2, .int (zI x2))] := hl
    rw [pX6_mostPairs_a37] at hf
    exact wX6_mostPairs_a37_0 C (rtI C) _ ih x1 x2 _ _ ls hw (lv_sub hl [0, 1, 2] rfl) hf
theorem tX6_mostPairs_a37 {l : Launch} {D : va_G} {A : Nat → Prop} {cI cZ : ClassId} {q : Nat → Nat} {σ : St} {x1 : Int} {x2 : Int} {r : Int} (hf : pX6_mostPairs_a37 7 σ x1 x2 = some r) : Met l yX6_mostPairs wsX6_mostPairs (rmX6_mostPairs_a37 7) (va_Pc [.ref (q 37), .int (zI x1), .int (zI x2)] (CX D (TY cI cZ) A (wE q cI cZ σ))) (QI D (TY cI cZ) A (wE q cI cZ σ) (zI r)) 0 0 A := trX6_mostPairs_a37 7 _ _ _ _ hf
abbrev rmX6_firstEgg : Room := { frames := 9, cells := 0, slots := 0, locals := 476 }
set_option maxHeartbeats 4000000 in
set_option maxRecDepth 100000 in
theorem wX6_firstEgg_83 {p : Program} {l : Launch} {e : Env} {s : State} {m : MethodId} {args : Array Value} {below : List Frame} {meth : Method} {c : Code} {D : va_G} {A : Nat → Prop} {q : Nat → Nat} {cI cZ : ClassId} {Q : State → Prop} {σ : St} {r : Int} (C : Cx p s m args meth c D (TY cI cZ) cX6_firstEgg (some .int) 7 wsX6_firstEgg RX6) (hret : RtI p l e rmX6_firstEgg s m args below meth c D A cX6_firstEgg Q (wE q cI cZ σ) (zI r)) (k26 : Int → Int → Int → Int → Int → Option (Int)) (hk26 : ∀ (x1 : Int) (x2 : Int) (x3 : Int) (x4 : Int) (x5 : Int) (H : Heap) (locs : List Loc) (ls : Array Slot), Wd D A s (wE q cI cZ σ) H locs → lv_has ls 7 [(0, .ref (q 36)), (1, .int (zI x1)), (2, .int (zI x2)), (3, .int (zI x3)), (4, .int (zI x4)), (5, .int (zI x5))] → k26 x1 x2 x3 x4 x5 = some r → W p l e rmX6_firstEgg s m args below meth c H locs 0 0 Q (F0 m 26 ls [])) :
    ∀ (x1 : Int) (x2 : Int) (x3 : Int) (x4 : Int) (x5 : Int) (H : Heap) (locs : List Loc) (ls : Array Slot), Wd D A s (wE q cI cZ σ) H locs → lv_has ls 7 [(0, .ref (q 36)), (1, .int (zI x1)), (2, .int (zI x2)), (3, .int (zI x3)), (4, .int (zI x4)), (5, .int (zI x5))] → pX6_firstEgg_83 k26 σ x1 x2 x3 x4 x5 = some r → W p l e rmX6_firstEgg s m args below meth c H locs 0 0 Q (F0 m 83 ls []) := by
  obtain ⟨hx, hb, hr, hml, hown, hts, hlk, hK, hN⟩ := id C
  intro x1 x2 x3 x4 x5 H locs ls hw hl hf
  rw [pX6_firstEgg_83] at hf
  refine lv_iinc (v := zI (x5 + 1)) (lv' := [(5, .int (zI (x5 + 1))), (0, .ref (q 36)), (1, .int (zI x1)), (2, .int (zI x2)), (3, .int (zI x3)), (4, .int (zI x4))]) hx hb dX6_firstEgg_83 hl (k := 5) rfl (zI_add _ _) (by decide) rfl (fun ls hl => ?_)
  refine lv_goto (tgt := 26) hx hb dX6_firstEgg_86 (by decide) ?_
  exact hk26 x1 x2 x3 x4 (x5 + 1) H locs ls hw (lv_sub hl [1, 2, 3, 4, 5, 0] rfl) hf
set_option maxHeartbeats 4000000 in
set_option maxRecDepth 100000 in
theorem wX6_firstEgg_49 {p : Program} {l : Launch} {e : Env} {s : State} {m : MethodId} {args : Array Value} {below : List Frame} {meth : Method} {c : Code} {D : va_G} {A : Nat → Prop} {q : Nat → Nat} {cI cZ : ClassId} {Q : State → Prop} {σ : St} {r : Int} (C : Cx p s m args meth c D (TY cI cZ) cX6_firstEgg (some .int) 7 wsX6_firstEgg RX6) (hret : RtI p l e rmX6_firstEgg s m args below meth c D A cX6_firstEgg Q (wE q cI cZ σ) (zI r)) (k26 : Int → Int → Int → Int → Int → Option (Int)) (hk26 : ∀ (x1 : Int) (x2 : Int) (x3 : Int) (x4 : Int) (x5 : Int) (H : Heap) (locs : List Loc) (ls : Array Slot), Wd D A s (wE q cI cZ σ) H locs → lv_has ls 7 [(0, .ref (q 36)), (1, .int (zI x1)), (2, .int (zI x2)), (3, .int (zI x3)), (4, .int (zI x4)), (5, .int (zI x5))] → k26 x1 x2 x3 x4 x5 = some r → W p l e rmX6_firstEgg s m args below meth c H locs 0 0 Q (F0 m 26 ls [])) :
    ∀ (x1 : Int) (x2 : Int) (x3 : Int) (x4 : Int) (x5 : Int) (t0 : Int) (H : Heap) (locs : List Loc) (ls : Array Slot), Wd D A s (wE q cI cZ σ) H locs → lv_has ls 7 [(0, .ref (q 36)), (1, .int (zI x1)), (2, .int (zI x2)), (3, .int (zI x3)), (4, .int (zI x4)), (5, .int (zI x5))] → pX6_firstEgg_49 k26 σ x1 x2 x3 x4 x5 t0 = some r → W p l e rmX6_firstEgg s m args below meth c H locs 0 0 Q (F0 m 49 ls [.int (zI t0)]) := by
  obtain ⟨hx, hb, hr, hml, hown, hts, hlk, hK, hN⟩ := id C
  intro x1 x2 x3 x4 x5 t0 H locs ls hw hl hf
  rw [pX6_firstEgg_49] at hf
  refine lv_istore (lv' := [(6, .int (zI t0)), (0, .ref (q 36)), (1, .int (zI x1)), (2, .int (zI x2)), (3, .int (zI x3)), (4, .int (zI x4)), (5, .int (zI x5))]) hx hb dX6_firstEgg_49 hl (by decide) rfl (fun ls hl => ?_)
  refine lv_iload hx hb dX6_firstEgg_51 (lv_at hl 0 rfl) ?_
  obtain ⟨hg53, hf⟩ := gd_s hf
  refine zv_if_eq (tgt := 83) hx hb hg53 dX6_firstEgg_53 (by decide) (fun (c53 : t0 = 0) => ?_) (fun (c53 : ¬ (t0 = 0)) => ?_)
  · rw [if_pos c53] at hf
    exact wX6_firstEgg_83 C hret _ hk26 x1 x2 x3 x4 x5 H locs ls hw (lv_sub hl [1, 2, 3, 4, 5, 6] rfl) hf
  · rw [if_neg c53] at hf
    refine lv_iconst (v := zI 1) hx hb dX6_firstEgg_56 rfl ?_
    refine lv_aload_n hx hb dX6_firstEgg_57 rfl (lv_at hl 1 rfl) ?_
    refine va_get (D := D) (ci := 6) (v := .ref (q 37)) (C := RX6) (T := TX6) (N := 1) hx hb hts (fun _ h => List.mem_cons_of_mem _ (List.mem_append_right _ h)) hown hK hw.1 36 rfl rfl 0 (by decide) (hts (.fieldLink RX6 9 "EggThrones$Sharing" "likings" "[I") (List.mem_of_getElem? (i := 1) rfl)) (fun _ h9 => h9) rfl dX6_firstEgg_58 ?_
    refine lv_iload_n hx hb dX6_firstEgg_61 rfl (lv_at hl 2 rfl) ?_
    refine lv_iconst (v := zI 1) hx hb dX6_firstEgg_62 rfl ?_
    refine zv_iadd hx hb dX6_firstEgg_63 ?_
    refine lv_iload_n hx hb dX6_firstEgg_64 rfl (lv_at hl 3 rfl) ?_
    refine lv_iconst (v := zI 1) hx hb dX6_firstEgg_65 rfl ?_
    refine lv_iload hx hb dX6_firstEgg_66 (lv_at hl 6 rfl) ?_
    refine zv_ishl hx hb dX6_firstEgg_68 ?_
    refine lv_iconst (v := zI (-1)) hx hb dX6_firstEgg_69 rfl ?_
    refine zv_ixor hx hb dX6_firstEgg_70 ?_
    refine zv_iand hx hb dX6_firstEgg_71 ?_
    obtain ⟨r72, h72, hf⟩ := bd_s hf
    replace hf := bt_s hf
    refine gSi (As := [.ref (q 37), .int (zI (x1 + 1)), .int (zI (zAnd x2 (zXor (zShl 1 x5) (-1))))]) (rest := [.int (zI 1)]) C hw (tX6_mostPairs_a37 h72) (va_cwS 3 hts gX6_firstEgg_X6_mostPairs rfl rfl rfl (by decide +kernel) ⟨Nat.le_of_ble_eq_true rfl, Nat.le_of_ble_eq_true rfl⟩) rfl hl.1 rfl (Nat.le_of_ble_eq_true rfl) dX6_firstEgg_72 (fun H locs hw => ?_)
    refine zv_iadd hx hb dX6_firstEgg_75 ?_
    refine lv_iload_n hx hb dX6_firstEgg_76 rfl (lv_at hl 4 rfl) ?_
    obtain ⟨hg77, hf⟩ := gd_s hf
    refine zv_icmp_ne (tgt := 83) hx hb hg77 dX6_firstEgg_77 (by decide) (fun (c77 : ¬ ((1 + r72) = x3)) => ?_) (fun (c77 : (1 + r72) = x3) => ?_)
    · rw [if_neg c77] at hf
      exact wX6_firstEgg_83 C hret _ hk26 x1 x2 x3 x4 x5 H locs ls hw (lv_sub hl [1, 2, 3, 4, 5, 6] rfl) hf
    · rw [if_pos c77] at hf
      refine lv_iload hx hb dX6_firstEgg_80 (lv_at hl 6 rfl) ?_
      cases hf
      exact hret H locs ls 82 dX6_firstEgg_82 hw
set_option maxHeartbeats 4000000 in
set_option maxRecDepth 100000 in
theorem wX6_firstEgg_26 {p : Program} {l : Launch} {e : Env} {s : State} {m : MethodId} {args : Array Value} {below : List Frame} {meth : Method} {c : Code} {D : va_G} {A : Nat → Prop} {q : Nat → Nat} {cI cZ : ClassId} {Q : State → Prop} {σ : St} {r : Int} (C : Cx p s m args meth c D (TY cI cZ) cX6_firstEgg (some .int) 7 wsX6_firstEgg RX6) (hret : RtI p l e rmX6_firstEgg s m args below meth c D A cX6_firstEgg Q (wE q cI cZ σ) (zI r)) :
    ∀ (n : Nat) (x1 : Int) (x2 : Int) (x3 : Int) (x4 : Int) (x5 : Int) (H : Heap) (locs : List Loc) (ls : Array Slot), Wd D A s (wE q cI cZ σ) H locs → lv_has ls 7 [(0, .ref (q 36)), (1, .int (zI x1)), (2, .int (zI x2)), (3, .int (zI x3)), (4, .int (zI x4)), (5, .int (zI x5))] → pX6_firstEgg_26 σ n x1 x2 x3 x4 x5 = some r → W p l e rmX6_firstEgg s m args below meth c H locs 0 0 Q (F0 m 26 ls []) := by
  obtain ⟨hx, hb, hr, hml, hown, hts, hlk, hK, hN⟩ := id C
  intro n
  induction n with
  | zero =>
    intro x1 x2 x3 x4 x5 H locs ls hw hl hf
    exact absurd (show (none : Option (Int)) = some r from hf) (by simp)
  | succ n ih =>
    intro x1 x2 x3 x4 x5 H locs ls hw hl hf
    rw [pX6_firstEgg_26] at hf
    refine lv_iload hx hb dX6_firstEgg_26 (lv_at hl 5 rfl) ?_
    refine lv_bipush (v := zI 7) hx hb dX6_firstEgg_28 (by decide +kernel) ?_
    obtain ⟨hg30, hf⟩ := gd_s hf
    refine zv_icmp_ge (tgt := 89) hx hb ⟨hg30, by decide⟩ dX6_firstEgg_30 (by decide) (fun (c30 : 7 ≤ x5) => ?_) (fun (c30 : ¬ (7 ≤ x5)) => ?_)
    · rw [if_pos c30] at hf
      refine lv_iconst (v := zI (-1)) hx hb dX6_firstEgg_89 rfl ?_
      cases hf
      exact hret H locs ls 90 dX6_firstEgg_90 hw
    · rw [if_neg c30] at hf
      refine lv_iload hx hb dX6_firstEgg_33 (lv_at hl 4 rfl) ?_
      refine lv_iload hx hb dX6_firstEgg_35 (lv_at hl 5 rfl) ?_
      refine zv_ishr hx hb dX6_firstEgg_37 ?_
      refine lv_iconst (v := zI 1) hx hb dX6_firstEgg_38 rfl ?_
      refine zv_iand hx hb dX6_firstEgg_39 ?_
      refine lv_iconst (v := zI 1) hx hb dX6_firstEgg_40 rfl ?_
      obtain ⟨hg41, hf⟩ := gd_s hf
      refine zv_icmp_ne (tgt := 48) hx hb ⟨hg41, by decide⟩ dX6_firstEgg_41 (by decide) (fun (c41 : ¬ ((zAnd (zShr x4 x5) 1) = 1)) => ?_) (fun (c41 : (zAnd (zShr x4 x5) 1) = 1) => ?_)
      · rw [if_neg c41] at hf
        refine lv_iconst (v := zI 0) hx hb dX6_firstEgg_48 rfl ?_
        exact wX6_firstEgg_49 C hret _ ih x1 x2 x3 x4 x5 0 H locs ls hw (lv_sub hl [0, 1, 2, 3, 4, 5] rfl) hf
      · rw [if_pos c41] at hf
        refine lv_iconst (v := zI 1) hx hb dX6_firstEgg_44 rfl ?_
        refine lv_goto (tgt := 49) hx hb dX6_firstEgg_45 (by decide) ?_
        exact wX6_firstEgg_49 C hret _ ih x1 x2 x3 x4 x5 1 H locs ls hw (lv_sub hl [0, 1, 2, 3, 4, 5] rfl) hf
set_option maxHeartbeats 4000000 in
set_option maxRecDepth 100000 in
theorem wX6_firstEgg_21 {p : Program} {l : Launch} {e : Env} {s : State} {m : MethodId} {args : Array Value} {below : List Frame} {meth : Method} {c : Code} {D : va_G} {A : Nat → Prop} {q : Nat → Nat} {cI cZ : ClassId} {Q : State → Prop} {σ : St} {r : Int} (C : Cx p s m args meth c D (TY cI cZ) cX6_firstEgg (some .int) 7 wsX6_firstEgg RX6) (hret : RtI p l e rmX6_firstEgg s m args below meth c D A cX6_firstEgg Q (wE q cI cZ σ) (zI r)) :
    ∀ (x1 : Int) (x2 : Int) (x3 : Int) (t0 : Int) (H : Heap) (locs : List Loc) (ls : Array Slot), Wd D A s (wE q cI cZ σ) H locs → lv_has ls 7 [(0, .ref (q 36)), (1, .int (zI x1)), (2, .int (zI x2)), (3, .int (zI x3))] → pX6_firstEgg_21 σ x1 x2 x3 t0 = some r → W p l e rmX6_firstEgg s m args below meth c H locs 0 0 Q (F0 m 21 ls [.int (zI t0)]) := by
  obtain ⟨hx, hb, hr, hml, hown, hts, hlk, hK, hN⟩ := id C
  intro x1 x2 x3 t0 H locs ls hw hl hf
  rw [pX6_firstEgg_21] at hf
  refine lv_istore (lv' := [(4, .int (zI t0)), (0, .ref (q 36)), (1, .int (zI x1)), (2, .int (zI x2)), (3, .int (zI x3))]) hx hb dX6_firstEgg_21 hl (by decide) rfl (fun ls hl => ?_)
  refine lv_iconst (v := zI 0) hx hb dX6_firstEgg_23 rfl ?_
  refine lv_istore (lv' := [(5, .int (zI 0)), (4, .int (zI t0)), (0, .ref (q 36)), (1, .int (zI x1)), (2, .int (zI x2)), (3, .int (zI x3))]) hx hb dX6_firstEgg_24 hl (by decide) rfl (fun ls hl => ?_)
  exact wX6_firstEgg_26 C hret FU x1 x2 x3 t0 0 H locs ls hw (lv_sub hl [2, 3, 4, 5, 1, 0] rfl) hf
set_option maxHeartbeats 4000000 in
set_option maxRecDepth 100000 in
theorem wX6_firstEgg_20 {p : Program} {l : Launch} {e : Env} {s : State} {m : MethodId} {args : Array Value} {below : List Frame} {meth : Method} {c : Code} {D : va_G} {A : Nat → Prop} {q : Nat → Nat} {cI cZ : ClassId} {Q : State → Prop} {σ : St} {r : Int} (C : Cx p s m args meth c D (TY cI cZ) cX6_firstEgg (some .int) 7 wsX6_firstEgg RX6) (hret : RtI p l e rmX6_firstEgg s m args below meth c D A cX6_firstEgg Q (wE q cI cZ σ) (zI r)) :
    ∀ (x1 : Int) (x2 : Int) (x3 : Int) (H : Heap) (locs : List Loc) (ls : Array Slot), Wd D A s (wE q cI cZ σ) H locs → lv_has ls 7 [(0, .ref (q 36)), (1, .int (zI x1)), (2, .int (zI x2)), (3, .int (zI x3))] → pX6_firstEgg_20 σ x1 x2 x3 = some r → W p l e rmX6_firstEgg s m args below meth c H locs 0 0 Q (F0 m 20 ls []) := by
  obtain ⟨hx, hb, hr, hml, hown, hts, hlk, hK, hN⟩ := id C
  intro x1 x2 x3 H locs ls hw hl hf
  rw [pX6_firstEgg_20] at hf
  refine lv_iconst (v := zI 0) hx hb dX6_firstEgg_20 rfl ?_
  exact wX6_firstEgg_21 C hret x1 x2 x3 0 H locs ls hw (lv_sub hl [0, 1, 2, 3] rfl) hf
set_option maxHeartbeats 4000000 in
set_option maxRecDepth 100000 in
theorem wX6_firstEgg_0 {p : Program} {l : Launch} {e : Env} {s : State} {m : MethodId} {args : Array Value} {below : List Frame} {meth : Method} {c : Code} {D : va_G} {A : Nat → Prop} {q : Nat → Nat} {cI cZ : ClassId} {Q : State → Prop} {σ : St} {r : Int} (C : Cx p s m args meth c D (TY cI cZ) cX6_firstEgg (some .int) 7 wsX6_firstEgg RX6) (hret : RtI p l e rmX6_firstEgg s m args below meth c D A cX6_firstEgg Q (wE q cI cZ σ) (zI r)) :
    ∀ (x1 : Int) (x2 : Int) (x3 : Int) (H : Heap) (locs : List Loc) (ls : Array Slot), Wd D A s (wE q cI cZ σ) H locs → lv_has ls 7 [(0, .ref (q 36)), (1, .int (zI x1)), (2, .int (zI x2)), (3, .int (zI x3))] → pX6_firstEgg_0 σ x1 x2 x3 = some r → W p l e rmX6_firstEgg s m args below meth c H locs 0 0 Q (F0 m 0 ls []) := by
  obtain ⟨hx, hb, hr, hml, hown, hts, hlk, hK, hN⟩ := id C
  intro x1 x2 x3 H locs ls hw hl hf
  rw [pX6_firstEgg_0] at hf
  refine lv_iload_n hx hb dX6_firstEgg_0 rfl (lv_at hl 1 rfl) ?_
  obtain ⟨hg1, hf⟩ := gd_s hf
  refine zv_if_lt (tgt := 20) hx hb hg1 dX6_firstEgg_1 (by decide) (fun (c1 : x1 < 0) => ?_) (fun (c1 : ¬ (x1 < 0)) => ?_)
  · rw [if_pos c1] at hf
    exact wX6_firstEgg_20 C hret x1 x2 x3 H locs ls hw (lv_sub hl [0, 1, 2, 3] rfl) hf
  · rw [if_neg c1] at hf
    refine lv_iload_n hx hb dX6_firstEgg_4 rfl (lv_at hl 1 rfl) ?_
    refine lv_iconst (v := zI 5) hx hb dX6_firstEgg_5 rfl ?_
    obtain ⟨hg6, hf⟩ := gd_s hf
    refine zv_icmp_ge (tgt := 20) hx hb ⟨hg6, by decide⟩ dX6_firstEgg_6 (by decide) (fun (c6 : 5 ≤ x1) => ?_) (fun (c6 : ¬ (5 ≤ x1)) => ?_)
    · rw [if_pos c6] at hf
      exact wX6_firstEgg_20 C hret x1 x2 x3 H locs ls hw (lv_sub hl [0, 1, 2, 3] rfl) hf
    · rw [if_neg c6] at hf
      refine lv_aload_n hx hb dX6_firstEgg_9 rfl (lv_at hl 0 rfl) ?_
      refine va_get (D := D) (ci := 6) (v := .ref (q 37)) (C := RX6) (T := TX6) (N := 1) hx hb hts (fun _ h => List.mem_cons_of_mem _ (List.mem_append_right _ h)) hown hK hw.1 36 rfl rfl 0 (by decide) (hts (.fieldLink RX6 9 "EggThrones$Sharing" "likings" "[I") (List.mem_of_getElem? (i := 1) rfl)) (fun _ h9 => h9) rfl dX6_firstEgg_10 ?_
      refine lv_iload_n hx hb dX6_firstEgg_13 rfl (lv_at hl 1 rfl) ?_
      obtain ⟨hi14, hf⟩ := gd_s hf
      refine zv_iald (D := D) hx hb hK hw.1 37 0 rfl rfl hi14 (by decide) dX6_firstEgg_14 ?_
      refine lv_iload_n hx hb dX6_firstEgg_15 rfl (lv_at hl 2 rfl) ?_
      refine zv_iand hx hb dX6_firstEgg_16 ?_
      refine lv_goto (tgt := 21) hx hb dX6_firstEgg_17 (by decide) ?_
      exact wX6_firstEgg_21 C hret x1 x2 x3 (zAnd (σ.2 25 (Int.toNat x1)) x2) H locs ls hw (lv_sub hl [0, 1, 2, 3] rfl) hf
set_option maxHeartbeats 4000000 in
set_option maxRecDepth 100000 in
theorem tX6_firstEgg {l : Launch} {D : va_G} {A : Nat → Prop} {cI cZ : ClassId} {q : Nat → Nat} {σ : St} {x1 : Int} {x2 : Int} {x3 : Int} {r : Int} (hf : pX6_firstEgg σ x1 x2 x3 = some r) : Met l yX6_firstEgg wsX6_firstEgg rmX6_firstEgg (va_Pc [.ref (q 36), .int (zI x1), .int (zI x2), .int (zI x3)] (CX D (TY cI cZ) A (wE q cI cZ σ))) (QI D (TY cI cZ) A (wE q cI cZ σ) (zI r)) 0 0 A := by
  refine opn (cc := cX6_firstEgg) (maxL := 7) (ret := (some .int)) (by decide) rfl (Nat.le_of_ble_eq_true rfl) (fun p e s m below meth c C ls hw hl => ?_)
  have hl : lv_has ls 7 [(0, .ref (q 36)), (1, .int (zI x1)), (2, .int (zI x2)), (3, .int (zI x3))] := hl
  rw [pX6_firstEgg] at hf
  exact wX6_firstEgg_0 C (rtI C) x1 x2 x3 _ _ ls hw (lv_sub hl [0, 1, 2, 3] rfl) hf
abbrev rmX6_most : Room := { frames := 9, cells := 0, slots := 0, locals := 476 }
set_option maxHeartbeats 4000000 in
set_option maxRecDepth 100000 in
theorem wX6_most_0 {p : Program} {l : Launch} {e : Env} {s : State} {m : MethodId} {args : Array Value} {below : List Frame} {meth : Method} {c : Code} {D : va_G} {A : Nat → Prop} {q : Nat → Nat} {cI cZ : ClassId} {Q : State → Prop} {σ : St} {r : Int} (C : Cx p s m args meth c D (TY cI cZ) cX6_most (some .int) 1 wsX6_most RX6) (hret : RtI p l e rmX6_most s m args below meth c D A cX6_most Q (wE q cI cZ σ) (zI r)) :
    ∀ (H : Heap) (locs : List Loc) (ls : Array Slot), Wd D A s (wE q cI cZ σ) H locs → lv_has ls 1 [(0, .ref (q 36))] → pX6_most_0 σ = some r → W p l e rmX6_most s m args below meth c H locs 0 0 Q (F0 m 0 ls []) := by
  obtain ⟨hx, hb, hr, hml, hown, hts, hlk, hK, hN⟩ := id C
  intro H locs ls hw hl hf
  rw [pX6_most_0] at hf
  refine lv_aload_n hx hb dX6_most_0 rfl (lv_at hl 0 rfl) ?_
  refine va_get (D := D) (ci := 6) (v := .ref (q 37)) (C := RX6) (T := TX6) (N := 1) hx hb hts (fun _ h => List.mem_cons_of_mem _ (List.mem_append_right _ h)) hown hK hw.1 36 rfl rfl 0 (by decide) (hts (.fieldLink RX6 9 "EggThrones$Sharing" "likings" "[I") (List.mem_of_getElem? (i := 1) rfl)) (fun _ h9 => h9) rfl dX6_most_1 ?_
  refine lv_iconst (v := zI 0) hx hb dX6_most_4 rfl ?_
  refine lv_bipush (v := zI 127) hx hb dX6_most_5 (by decide +kernel) ?_
  obtain ⟨r7, h7, hf⟩ := bd_s hf
  replace hf := bt_s hf
  refine gSi (As := [.ref (q 37), .int (zI 0), .int (zI 127)]) (rest := []) C hw (tX6_mostPairs_a37 h7) (va_cwS 3 hts gX6_most_X6_mostPairs rfl rfl rfl (by decide +kernel) ⟨Nat.le_of_ble_eq_true rfl, Nat.le_of_ble_eq_true rfl⟩) rfl hl.1 rfl (Nat.le_of_ble_eq_true rfl) dX6_most_7 (fun H locs hw => ?_)
  cases hf
  exact hret H locs ls 10 dX6_most_10 hw
set_option maxHeartbeats 4000000 in
set_option maxRecDepth 100000 in
theorem tX6_most {l : Launch} {D : va_G} {A : Nat → Prop} {cI cZ : ClassId} {q : Nat → Nat} {σ : St} {r : Int} (hf : pX6_most σ = some r) : Met l yX6_most wsX6_most rmX6_most (va_Pc [.ref (q 36)] (CX D (TY cI cZ) A (wE q cI cZ σ))) (QI D (TY cI cZ) A (wE q cI cZ σ) (zI r)) 0 0 A := by
  refine opn (cc := cX6_most) (maxL := 1) (ret := (some .int)) (by decide) rfl (Nat.le_of_ble_eq_true rfl) (fun p e s m below meth c C ls hw hl => ?_)
  have hl : lv_has ls 1 [(0, .ref (q 36))] := hl
  rw [pX6_most] at hf
  exact wX6_most_0 C (rtI C) _ _ ls hw (lv_sub hl [0] rfl) hf
abbrev rmX6_eggFor : Room := { frames := 10, cells := 0, slots := 0, locals := 502 }
set_option maxHeartbeats 4000000 in
set_option maxRecDepth 100000 in
theorem wX6_eggFor_54 {p : Program} {l : Launch} {e : Env} {s : State} {m : MethodId} {args : Array Value} {below : List Frame} {meth : Method} {c : Code} {D : va_G} {A : Nat → Prop} {q : Nat → Nat} {cI cZ : ClassId} {Q : State → Prop} {σ : St} {r : Int} (C : Cx p s m args meth c D (TY cI cZ) cX6_eggFor (some .int) 6 wsX6_eggFor RX6) (hret : RtI p l e rmX6_eggFor s m args below meth c D A cX6_eggFor Q (wE q cI cZ σ) (zI r)) (k14 : Int → Int → Int → Int → Int → Option (Int)) (hk14 : ∀ (x1 : Int) (x2 : Int) (x3 : Int) (x4 : Int) (x5 : Int) (H : Heap) (locs : List Loc) (ls : Array Slot), Wd D A s (wE q cI cZ σ) H locs → lv_has ls 6 [(0, .ref (q 36)), (1, .int (zI x1)), (2, .int (zI x2)), (3, .int (zI x3)), (4, .int (zI x4)), (5, .int (zI x5))] → k14 x1 x2 x3 x4 x5 = some r → W p l e rmX6_eggFor s m args below meth c H locs 0 0 Q (F0 m 14 ls [])) :
    ∀ (x1 : Int) (x2 : Int) (x3 : Int) (x4 : Int) (x5 : Int) (H : Heap) (locs : List Loc) (ls : Array Slot), Wd D A s (wE q cI cZ σ) H locs → lv_has ls 6 [(0, .ref (q 36)), (1, .int (zI x1)), (2, .int (zI x2)), (3, .int (zI x3)), (4, .int (zI x4)), (5, .int (zI x5))] → pX6_eggFor_54 k14 σ x1 x2 x3 x4 x5 = some r → W p l e rmX6_eggFor s m args below meth c H locs 0 0 Q (F0 m 54 ls []) := by
  obtain ⟨hx, hb, hr, hml, hown, hts, hlk, hK, hN⟩ := id C
  intro x1 x2 x3 x4 x5 H locs ls hw hl hf
  rw [pX6_eggFor_54] at hf
  refine lv_iinc (v := zI (x5 + 1)) (lv' := [(5, .int (zI (x5 + 1))), (0, .ref (q 36)), (1, .int (zI x1)), (2, .int (zI x2)), (3, .int (zI x3)), (4, .int (zI x4))]) hx hb dX6_eggFor_54 hl (k := 5) rfl (zI_add _ _) (by decide) rfl (fun ls hl => ?_)
  refine lv_goto (tgt := 14) hx hb dX6_eggFor_57 (by decide) ?_
  exact hk14 x1 x2 x3 x4 (x5 + 1) H locs ls hw (lv_sub hl [1, 2, 3, 4, 5, 0] rfl) hf
set_option maxHeartbeats 4000000 in
set_option maxRecDepth 100000 in
theorem wX6_eggFor_14 {p : Program} {l : Launch} {e : Env} {s : State} {m : MethodId} {args : Array Value} {below : List Frame} {meth : Method} {c : Code} {D : va_G} {A : Nat → Prop} {q : Nat → Nat} {cI cZ : ClassId} {Q : State → Prop} {σ : St} {r : Int} (C : Cx p s m args meth c D (TY cI cZ) cX6_eggFor (some .int) 6 wsX6_eggFor RX6) (hret : RtI p l e rmX6_eggFor s m args below meth c D A cX6_eggFor Q (wE q cI cZ σ) (zI r)) :
    ∀ (n : Nat) (x1 : Int) (x2 : Int) (x3 : Int) (x4 : Int) (x5 : Int) (H : Heap) (locs : List Loc) (ls : Array Slot), Wd D A s (wE q cI cZ σ) H locs → lv_has ls 6 [(0, .ref (q 36)), (1, .int (zI x1)), (2, .int (zI x2)), (3, .int (zI x3)), (4, .int (zI x4)), (5, .int (zI x5))] → pX6_eggFor_14 σ n x1 x2 x3 x4 x5 = some r → W p l e rmX6_eggFor s m args below meth c H locs 0 0 Q (F0 m 14 ls []) := by
  obtain ⟨hx, hb, hr, hml, hown, hts, hlk, hK, hN⟩ := id C
  intro n
  induction n with
  | zero =>
    intro x1 x2 x3 x4 x5 H locs ls hw hl hf
    exact absurd (show (none : Option (Int)) = some r from hf) (by simp)
  | succ n ih =>
    intro x1 x2 x3 x4 x5 H locs ls hw hl hf
    rw [pX6_eggFor_14] at hf
    refine lv_iload hx hb dX6_eggFor_14 (lv_at hl 5 rfl) ?_
    refine lv_iload_n hx hb dX6_eggFor_16 rfl (lv_at hl 1 rfl) ?_
    obtain ⟨hg17, hf⟩ := gd_s hf
    refine zv_icmp_gt (tgt := 60) hx hb hg17 dX6_eggFor_17 (by decide) (fun (c17 : x1 < x5) => ?_) (fun (c17 : ¬ (x1 < x5)) => ?_)
    · rw [if_pos c17] at hf
      refine lv_iload hx hb dX6_eggFor_60 (lv_at hl 4 rfl) ?_
      cases hf
      exact hret H locs ls 62 dX6_eggFor_62 hw
    · rw [if_neg c17] at hf
      refine lv_iload hx hb dX6_eggFor_20 (lv_at hl 5 rfl) ?_
      refine lv_iconst (v := zI 5) hx hb dX6_eggFor_22 rfl ?_
      obtain ⟨hg23, hf⟩ := gd_s hf
      refine zv_icmp_ge (tgt := 60) hx hb ⟨hg23, by decide⟩ dX6_eggFor_23 (by decide) (fun (c23 : 5 ≤ x5) => ?_) (fun (c23 : ¬ (5 ≤ x5)) => ?_)
      · rw [if_pos c23] at hf
        refine lv_iload hx hb dX6_eggFor_60 (lv_at hl 4 rfl) ?_
        cases hf
        exact hret H locs ls 62 dX6_eggFor_62 hw
      · rw [if_neg c23] at hf
        refine lv_aload_n hx hb dX6_eggFor_26 rfl (lv_at hl 0 rfl) ?_
        refine lv_iload hx hb dX6_eggFor_27 (lv_at hl 5 rfl) ?_
        refine lv_iload_n hx hb dX6_eggFor_29 rfl (lv_at hl 2 rfl) ?_
        refine lv_iload_n hx hb dX6_eggFor_30 rfl (lv_at hl 3 rfl) ?_
        obtain ⟨r31, h31, hf⟩ := bd_s hf
        replace hf := bt_s hf
        refine gVi (As := [.int (zI x5), .int (zI x2), .int (zI x3)]) (rest := []) C hw (tX6_firstEgg h31) (cwV 3 hts gX6_eggFor_X6_firstEgg rfl rfl rfl (by decide +kernel) ⟨Nat.le_of_ble_eq_true rfl, Nat.le_of_ble_eq_true rfl⟩) 6 36 rfl rfl rfl hl.1 rfl (Nat.le_of_ble_eq_true rfl) dX6_eggFor_31 (fun H locs hw => ?_)
        refine lv_istore (lv' := [(4, .int (zI r31)), (0, .ref (q 36)), (1, .int (zI x1)), (2, .int (zI x2)), (3, .int (zI x3)), (5, .int (zI x5))]) hx hb dX6_eggFor_34 hl (by decide) rfl (fun ls hl => ?_)
        refine lv_iload hx hb dX6_eggFor_36 (lv_at hl 0 rfl) ?_
        refine lv_iconst (v := zI (-1)) hx hb dX6_eggFor_38 rfl ?_
        obtain ⟨hg39, hf⟩ := gd_s hf
        refine zv_icmp_eq (tgt := 54) hx hb ⟨hg39, by decide⟩ dX6_eggFor_39 (by decide) (fun (c39 : r31 = (-1)) => ?_) (fun (c39 : ¬ (r31 = (-1))) => ?_)
        · rw [if_pos c39] at hf
          exact wX6_eggFor_54 C hret _ ih x1 x2 x3 r31 x5 H locs ls hw (lv_sub hl [1, 2, 3, 4, 0, 5] rfl) hf
        · rw [if_neg c39] at hf
          refine lv_iload_n hx hb dX6_eggFor_42 rfl (lv_at hl 3 rfl) ?_
          refine lv_iconst (v := zI 1) hx hb dX6_eggFor_43 rfl ?_
          refine lv_iload hx hb dX6_eggFor_44 (lv_at hl 0 rfl) ?_
          refine zv_ishl hx hb dX6_eggFor_46 ?_
          refine lv_iconst (v := zI (-1)) hx hb dX6_eggFor_47 rfl ?_
          refine zv_ixor hx hb dX6_eggFor_48 ?_
          refine zv_iand hx hb dX6_eggFor_49 ?_
          refine lv_istore_n (lv' := [(2, .int (zI (zAnd x2 (zXor (zShl 1 r31) (-1))))), (4, .int (zI r31)), (0, .ref (q 36)), (1, .int (zI x1)), (3, .int (zI x3)), (5, .int (zI x5))]) hx hb dX6_eggFor_50 rfl hl (by decide) rfl (fun ls hl => ?_)
          refine lv_iinc (v := zI (x3 + (-1))) (lv' := [(3, .int (zI (x3 + (-1)))), (2, .int (zI (zAnd x2 (zXor (zShl 1 r31) (-1))))), (4, .int (zI r31)), (0, .ref (q 36)), (1, .int (zI x1)), (5, .int (zI x5))]) hx hb dX6_eggFor_51 hl (k := 4) rfl (zI_add _ _) (by decide) rfl (fun ls hl => ?_)
          exact wX6_eggFor_54 C hret _ ih x1 (zAnd x2 (zXor (zShl 1 r31) (-1))) (x3 + (-1)) r31 x5 H locs ls hw (lv_sub hl [3, 4, 1, 0, 2, 5] rfl) hf
set_option maxHeartbeats 4000000 in
set_option maxRecDepth 100000 in
theorem wX6_eggFor_0 {p : Program} {l : Launch} {e : Env} {s : State} {m : MethodId} {args : Array Value} {below : List Frame} {meth : Method} {c : Code} {D : va_G} {A : Nat → Prop} {q : Nat → Nat} {cI cZ : ClassId} {Q : State → Prop} {σ : St} {r : Int} (C : Cx p s m args meth c D (TY cI cZ) cX6_eggFor (some .int) 6 wsX6_eggFor RX6) (hret : RtI p l e rmX6_eggFor s m args below meth c D A cX6_eggFor Q (wE q cI cZ σ) (zI r)) :
    ∀ (x1 : Int) (H : Heap) (locs : List Loc) (ls : Array Slot), Wd D A s (wE q cI cZ σ) H locs → lv_has ls 6 [(0, .ref (q 36)), (1, .int (zI x1))] → pX6_eggFor_0 σ x1 = some r → W p l e rmX6_eggFor s m args below meth c H locs 0 0 Q (F0 m 0 ls []) := by
  obtain ⟨hx, hb, hr, hml, hown, hts, hlk, hK, hN⟩ := id C
  intro x1 H locs ls hw hl hf
  rw [pX6_eggFor_0] at hf
  refine lv_bipush (v := zI 127) hx hb dX6_eggFor_0 (by decide +kernel) ?_
  refine lv_istore_n (lv' := [(2, .int (zI 127)), (0, .ref (q 36)), (1, .int (zI x1))]) hx hb dX6_eggFor_2 rfl hl (by decide) rfl (fun ls hl => ?_)
  refine lv_aload_n hx hb dX6_eggFor_3 rfl (lv_at hl 1 rfl) ?_
  obtain ⟨r4, h4, hf⟩ := bd_s hf
  replace hf := bt_s hf
  refine gVi (As := []) (rest := []) C hw (tX6_most h4) (cwV 0 hts gX6_eggFor_X6_most rfl rfl rfl (by decide +kernel) ⟨Nat.le_of_ble_eq_true rfl, Nat.le_of_ble_eq_true rfl⟩) 6 36 rfl rfl rfl hl.1 rfl (Nat.le_of_ble_eq_true rfl) dX6_eggFor_4 (fun H locs hw => ?_)
  refine lv_istore_n (lv' := [(3, .int (zI r4)), (2, .int (zI 127)), (0, .ref (q 36)), (1, .int (zI x1))]) hx hb dX6_eggFor_7 rfl hl (by decide) rfl (fun ls hl => ?_)
  refine lv_iconst (v := zI (-1)) hx hb dX6_eggFor_8 rfl ?_
  refine lv_istore (lv' := [(4, .int (zI (-1))), (3, .int (zI r4)), (2, .int (zI 127)), (0, .ref (q 36)), (1, .int (zI x1))]) hx hb dX6_eggFor_9 hl (by decide) rfl (fun ls hl => ?_)
  refine lv_iconst (v := zI 0) hx hb dX6_eggFor_11 rfl ?_
  refine lv_istore (lv' := [(5, .int (zI 0)), (4, .int (zI (-1))), (3, .int (zI r4)), (2, .int (zI 127)), (0, .ref (q 36)), (1, .int (zI x1))]) hx hb dX6_eggFor_12 hl (by decide) rfl (fun ls hl => ?_)
  exact wX6_eggFor_14 C hret FU x1 127 r4 (-1) 0 H locs ls hw (lv_sub hl [4, 5, 3, 2, 1, 0] rfl) hf
set_option maxHeartbeats 4000000 in
set_option maxRecDepth 100000 in
theorem tX6_eggFor {l : Launch} {D : va_G} {A : Nat → Prop} {cI cZ : ClassId} {q : Nat → Nat} {σ : St} {x1 : Int} {r : Int} (hf : pX6_eggFor σ x1 = some r) : Met l yX6_eggFor wsX6_eggFor rmX6_eggFor (va_Pc [.ref (q 36), .int (zI x1)] (CX D (TY cI cZ) A (wE q cI cZ σ))) (QI D (TY cI cZ) A (wE q cI cZ σ) (zI r)) 0 0 A := by
  refine opn (cc := cX6_eggFor) (maxL := 6) (ret := (some .int)) (by decide) rfl (Nat.le_of_ble_eq_true rfl) (fun p e s m below meth c C ls hw hl => ?_)
  have hl : lv_has ls 6 [(0, .ref (q 36)), (1, .int (zI x1))] := hl
  rw [pX6_eggFor] at hf
  exact wX6_eggFor_0 C (rtI C) x1 _ _ ls hw (lv_sub hl [0, 1] rfl) hf
