abbrev rmX11_ages : Room := { frames := 1, cells := 0, slots := 0, locals := 23 }
set_option maxHeartbeats 4000000 in
set_option maxRecDepth 100000 in
theorem wX11_ages_26 {p : Program} {l : Launch} {e : Env} {s : State} {m : MethodId} {args : Array Value} {below : List Frame} {meth : Method} {c : Code} {D : va_G} {A : Nat → Prop} {q : Nat → Nat} {cI cZ : ClassId} {Q : State → Prop} {σ : St} {r : Int} (C : Cx p s m args meth c D (TY cI cZ) cX11_ages (some .int) 3 wsX11_ages RX11) (hret : RtI p l e rmX11_ages s m args below meth c D A cX11_ages Q (wM q cI cZ σ) (zI r)) (k4 : Int → Int → Option (Int)) (hk4 : ∀ (x1 : Int) (x2 : Int) (H : Heap) (locs : List Loc) (ls : Array Slot), Wd D A s (wM q cI cZ σ) H locs → lv_has ls 3 [(0, .ref (q 0)), (1, .int (zI x1)), (2, .int (zI x2))] → k4 x1 x2 = some r → W p l e rmX11_ages s m args below meth c H locs 0 0 Q (F0 m 4 ls [])) :
    ∀ (x2 : Int) (t0 : Int) (t1 : Int) (H : Heap) (locs : List Loc) (ls : Array Slot), Wd D A s (wM q cI cZ σ) H locs → lv_has ls 3 [(0, .ref (q 0)), (2, .int (zI x2))] → pX11_ages_26 k4 σ x2 t0 t1 = some r → W p l e rmX11_ages s m args below meth c H locs 0 0 Q (F0 m 26 ls [.int (zI t1), .int (zI t0)]) := by
  obtain ⟨hx, hb, hr, hml, hown, hts, hlk, hK, hN⟩ := id C
  intro x2 t0 t1 H locs ls hw hl hf
  rw [pX11_ages_26] at hf
  refine zv_ior hx hb dX11_ages_26 ?_
  refine lv_istore_n (lv' := [(1, .int (zI (zOr t0 t1))), (0, .ref (q 0)), (2, .int (zI x2))]) hx hb dX11_ages_27 rfl hl (by decide) rfl (fun ls hl => ?_)
  refine lv_iinc (v := zI (x2 + 1)) (lv' := [(2, .int (zI (x2 + 1))), (1, .int (zI (zOr t0 t1))), (0, .ref (q 0))]) hx hb dX11_ages_28 hl (k := 2) rfl (zI_add _ _) (by decide) rfl (fun ls hl => ?_)
  refine lv_goto (tgt := 4) hx hb dX11_ages_31 (by decide) ?_
  exact hk4 (zOr t0 t1) (x2 + 1) H locs ls hw (lv_sub hl [2, 1, 0] rfl) hf
set_option maxHeartbeats 4000000 in
set_option maxRecDepth 100000 in
theorem wX11_ages_4 {p : Program} {l : Launch} {e : Env} {s : State} {m : MethodId} {args : Array Value} {below : List Frame} {meth : Method} {c : Code} {D : va_G} {A : Nat → Prop} {q : Nat → Nat} {cI cZ : ClassId} {Q : State → Prop} {σ : St} {r : Int} (C : Cx p s m args meth c D (TY cI cZ) cX11_ages (some .int) 3 wsX11_ages RX11) (hret : RtI p l e rmX11_ages s m args below meth c D A cX11_ages Q (wM q cI cZ σ) (zI r)) :
    ∀ (n : Nat) (x1 : Int) (x2 : Int) (H : Heap) (locs : List Loc) (ls : Array Slot), Wd D A s (wM q cI cZ σ) H locs → lv_has ls 3 [(0, .ref (q 0)), (1, .int (zI x1)), (2, .int (zI x2))] → pX11_ages_4 σ n x1 x2 = some r → W p l e rmX11_ages s m args below meth c H locs 0 0 Q (F0 m 4 ls []) := by
  obtain ⟨hx, hb, hr, hml, hown, hts, hlk, hK, hN⟩ := id C
  intro n
  induction n with
  | zero =>
    intro x1 x2 H locs ls hw hl hf
    exact absurd (show (none : Option (Int)) = some r from hf) (by simp)
  | succ n ih =>
    intro x1 x2 H locs ls hw hl hf
    rw [pX11_ages_4] at hf
    refine lv_iload_n hx hb dX11_ages_4 rfl (lv_at hl 2 rfl) ?_
    refine lv_bipush (v := zI 31) hx hb dX11_ages_5 (by decide +kernel) ?_
    obtain ⟨hg7, hf⟩ := gd_s hf
    refine zv_icmp_ge (tgt := 34) hx hb ⟨hg7, by decide⟩ dX11_ages_7 (by decide) (fun (c7 : 31 ≤ x2) => ?_) (fun (c7 : ¬ (31 ≤ x2)) => ?_)
    · rw [if_pos c7] at hf
      refine lv_iload_n hx hb dX11_ages_34 rfl (lv_at hl 1 rfl) ?_
      cases hf
      exact hret H locs ls 35 dX11_ages_35 hw
    · rw [if_neg c7] at hf
      refine lv_iload_n hx hb dX11_ages_10 rfl (lv_at hl 1 rfl) ?_
      refine lv_aload_n hx hb dX11_ages_11 rfl (lv_at hl 0 rfl) ?_
      refine lv_iload_n hx hb dX11_ages_12 rfl (lv_at hl 2 rfl) ?_
      obtain ⟨r13, h13, hf⟩ := bd_s hf
      replace hf := bt_s hf
      refine gVi (As := [.int (zI x2)]) (rest := [.int (zI x1)]) C hw (tX11_couldBe h13) (cwV 1 hts gX11_ages_X11_couldBe rfl rfl rfl (by decide +kernel) ⟨Nat.le_of_ble_eq_true rfl, Nat.le_of_ble_eq_true rfl⟩) 11 0 rfl rfl rfl hl.1 rfl (Nat.le_of_ble_eq_true rfl) dX11_ages_13 (fun H locs hw => ?_)
      obtain ⟨hg16, hf⟩ := gd_s hf
      refine zv_if_eq (tgt := 25) hx hb hg16 dX11_ages_16 (by decide) (fun (c16 : r13 = 0) => ?_) (fun (c16 : ¬ (r13 = 0)) => ?_)
      · rw [if_pos c16] at hf
        refine lv_iconst (v := zI 0) hx hb dX11_ages_25 rfl ?_
        exact wX11_ages_26 C hret _ ih x2 x1 0 H locs ls hw (lv_sub hl [0, 2] rfl) hf
      · rw [if_neg c16] at hf
        refine lv_iconst (v := zI 1) hx hb dX11_ages_19 rfl ?_
        refine lv_iload_n hx hb dX11_ages_20 rfl (lv_at hl 2 rfl) ?_
        refine zv_ishl hx hb dX11_ages_21 ?_
        refine lv_goto (tgt := 26) hx hb dX11_ages_22 (by decide) ?_
        exact wX11_ages_26 C hret _ ih x2 x1 (zShl 1 x2) H locs ls hw (lv_sub hl [0, 2] rfl) hf
set_option maxHeartbeats 4000000 in
set_option maxRecDepth 100000 in
theorem wX11_ages_0 {p : Program} {l : Launch} {e : Env} {s : State} {m : MethodId} {args : Array Value} {below : List Frame} {meth : Method} {c : Code} {D : va_G} {A : Nat → Prop} {q : Nat → Nat} {cI cZ : ClassId} {Q : State → Prop} {σ : St} {r : Int} (C : Cx p s m args meth c D (TY cI cZ) cX11_ages (some .int) 3 wsX11_ages RX11) (hret : RtI p l e rmX11_ages s m args below meth c D A cX11_ages Q (wM q cI cZ σ) (zI r)) :
    ∀ (H : Heap) (locs : List Loc) (ls : Array Slot), Wd D A s (wM q cI cZ σ) H locs → lv_has ls 3 [(0, .ref (q 0))] → pX11_ages_0 σ = some r → W p l e rmX11_ages s m args below meth c H locs 0 0 Q (F0 m 0 ls []) := by
  obtain ⟨hx, hb, hr, hml, hown, hts, hlk, hK, hN⟩ := id C
  intro H locs ls hw hl hf
  rw [pX11_ages_0] at hf
  refine lv_iconst (v := zI 0) hx hb dX11_ages_0 rfl ?_
  refine lv_istore_n (lv' := [(1, .int (zI 0)), (0, .ref (q 0))]) hx hb dX11_ages_1 rfl hl (by decide) rfl (fun ls hl => ?_)
  refine lv_iconst (v := zI 0) hx hb dX11_ages_2 rfl ?_
  refine lv_istore_n (lv' := [(2, .int (zI 0)), (1, .int (zI 0)), (0, .ref (q 0))]) hx hb dX11_ages_3 rfl hl (by decide) rfl (fun ls hl => ?_)
  exact wX11_ages_4 C hret FU 0 0 H locs ls hw (lv_sub hl [2, 1, 0] rfl) hf
set_option maxHeartbeats 4000000 in
set_option maxRecDepth 100000 in
theorem tX11_ages {l : Launch} {D : va_G} {A : Nat → Prop} {cI cZ : ClassId} {q : Nat → Nat} {σ : St} {r : Int} (hf : pX11_ages σ = some r) : Met l yX11_ages wsX11_ages rmX11_ages (va_Pc [.ref (q 0)] (CX D (TY cI cZ) A (wM q cI cZ σ))) (QI D (TY cI cZ) A (wM q cI cZ σ) (zI r)) 0 0 A := by
  refine opn (cc := cX11_ages) (maxL := 3) (ret := (some .int)) (by decide) rfl (Nat.le_of_ble_eq_true rfl) (fun p e s m below meth c C ls hw hl => ?_)
  have hl : lv_has ls 3 [(0, .ref (q 0))] := hl
  rw [pX11_ages] at hf
  exact wX11_ages_0 C (rtI C) _ _ ls hw (lv_sub hl [0] rfl) hf
abbrev rmX2_greatestPart : Room := { frames := 1, cells := 0, slots := 0, locals := 30 }
set_option maxHeartbeats 4000000 in
set_option maxRecDepth 100000 in
theorem wX2_greatestPart_27 {p : Program} {l : Launch} {e : Env} {s : State} {m : MethodId} {args : Array Value} {below : List Frame} {meth : Method} {c : Code} {D : va_G} {A : Nat → Prop} {w : va_W} {cI cZ : ClassId} {Q : State → Prop} {r : Int} (C : Cx p s m args meth c D (TY cI cZ) cX2_greatestPart (some .int) 5 wsX2_greatestPart RX2) (hret : RtI p l e rmX2_greatestPart s m args below meth c D A cX2_greatestPart Q (w) (zI r)) (k7 : Int → Int → Int → Int → Int → Option (Int)) (hk7 : ∀ (x0 : Int) (x1 : Int) (x2 : Int) (x3 : Int) (x4 : Int) (H : Heap) (locs : List Loc) (ls : Array Slot), Wd D A s (w) H locs → lv_has ls 5 [(0, .int (zI x0)), (1, .int (zI x1)), (2, .int (zI x2)), (3, .int (zI x3)), (4, .int (zI x4))] → k7 x0 x1 x2 x3 x4 = some r → W p l e rmX2_greatestPart s m args below meth c H locs 0 0 Q (F0 m 7 ls [])) :
    ∀ (x0 : Int) (x1 : Int) (x2 : Int) (x3 : Int) (x4 : Int) (H : Heap) (locs : List Loc) (ls : Array Slot), Wd D A s (w) H locs → lv_has ls 5 [(0, .int (zI x0)), (1, .int (zI x1)), (2, .int (zI x2)), (3, .int (zI x3)), (4, .int (zI x4))] → pX2_greatestPart_27 k7 x0 x1 x2 x3 x4 = some r → W p l e rmX2_greatestPart s m args below meth c H locs 0 0 Q (F0 m 27 ls []) := by
  obtain ⟨hx, hb, hr, hml, hown, hts, hlk, hK, hN⟩ := id C
  intro x0 x1 x2 x3 x4 H locs ls hw hl hf
  rw [pX2_greatestPart_27] at hf
  refine lv_iload_n hx hb dX2_greatestPart_27 rfl (lv_at hl 3 rfl) ?_
  refine lv_iload_n hx hb dX2_greatestPart_28 rfl (lv_at hl 0 rfl) ?_
  refine lv_iload hx hb dX2_greatestPart_29 (lv_at hl 4 rfl) ?_
  refine zv_ishr hx hb dX2_greatestPart_31 ?_
  refine lv_iconst (v := zI 1) hx hb dX2_greatestPart_32 rfl ?_
  refine zv_iand hx hb dX2_greatestPart_33 ?_
  refine zv_iadd hx hb dX2_greatestPart_34 ?_
  refine lv_istore_n (lv' := [(3, .int (zI (x3 + (zAnd (zShr x0 x4) 1)))), (0, .int (zI x0)), (1, .int (zI x1)), (2, .int (zI x2)), (4, .int (zI x4))]) hx hb dX2_greatestPart_35 rfl hl (by decide) rfl (fun ls hl => ?_)
  refine lv_iload_n hx hb dX2_greatestPart_36 rfl (lv_at hl 3 rfl) ?_
  refine lv_iload_n hx hb dX2_greatestPart_37 rfl (lv_at hl 0 rfl) ?_
  obtain ⟨hg38, hf⟩ := gd_s hf
  refine zv_mmax (rest := []) hx hb (hml.trans hl.1.symm) hown (hts (.methodLink RX2 40 Lib.Math.max.name) (List.mem_of_getElem? (i := 1) rfl)) (hts (.static Lib.Math.max.name) (List.mem_of_getElem? (i := 2) rfl)) (hts (.initialized "java/lang/Math") (List.mem_of_getElem? (i := 3) rfl)) (hts (.code Lib.Math.max.name Lib.Math.max.code 2 (some .int)) (List.mem_of_getElem? (i := 4) rfl)) (Nat.le_of_ble_eq_true rfl) (Nat.le_of_ble_eq_true rfl) (Nat.zero_le _) (Nat.zero_le _) hg38 dX2_greatestPart_38 ?_
  refine lv_istore_n (lv' := [(2, .int (zI (max x2 (x3 + (zAnd (zShr x0 x4) 1))))), (3, .int (zI (x3 + (zAnd (zShr x0 x4) 1)))), (0, .int (zI x0)), (1, .int (zI x1)), (4, .int (zI x4))]) hx hb dX2_greatestPart_41 rfl hl (by decide) rfl (fun ls hl => ?_)
  refine lv_iinc (v := zI (x4 + 1)) (lv' := [(4, .int (zI (x4 + 1))), (2, .int (zI (max x2 (x3 + (zAnd (zShr x0 x4) 1))))), (3, .int (zI (x3 + (zAnd (zShr x0 x4) 1)))), (0, .int (zI x0)), (1, .int (zI x1))]) hx hb dX2_greatestPart_42 hl (k := 4) rfl (zI_add _ _) (by decide) rfl (fun ls hl => ?_)
  refine lv_goto (tgt := 7) hx hb dX2_greatestPart_45 (by decide) ?_
  exact hk7 x0 x1 (max x2 (x3 + (zAnd (zShr x0 x4) 1))) (x3 + (zAnd (zShr x0 x4) 1)) (x4 + 1) H locs ls hw (lv_sub hl [3, 4, 1, 2, 0] rfl) hf
set_option maxHeartbeats 4000000 in
set_option maxRecDepth 100000 in
theorem wX2_greatestPart_25 {p : Program} {l : Launch} {e : Env} {s : State} {m : MethodId} {args : Array Value} {below : List Frame} {meth : Method} {c : Code} {D : va_G} {A : Nat → Prop} {w : va_W} {cI cZ : ClassId} {Q : State → Prop} {r : Int} (C : Cx p s m args meth c D (TY cI cZ) cX2_greatestPart (some .int) 5 wsX2_greatestPart RX2) (hret : RtI p l e rmX2_greatestPart s m args below meth c D A cX2_greatestPart Q (w) (zI r)) (k7 : Int → Int → Int → Int → Int → Option (Int)) (hk7 : ∀ (x0 : Int) (x1 : Int) (x2 : Int) (x3 : Int) (x4 : Int) (H : Heap) (locs : List Loc) (ls : Array Slot), Wd D A s (w) H locs → lv_has ls 5 [(0, .int (zI x0)), (1, .int (zI x1)), (2, .int (zI x2)), (3, .int (zI x3)), (4, .int (zI x4))] → k7 x0 x1 x2 x3 x4 = some r → W p l e rmX2_greatestPart s m args below meth c H locs 0 0 Q (F0 m 7 ls [])) :
    ∀ (x0 : Int) (x1 : Int) (x2 : Int) (x4 : Int) (H : Heap) (locs : List Loc) (ls : Array Slot), Wd D A s (w) H locs → lv_has ls 5 [(0, .int (zI x0)), (1, .int (zI x1)), (2, .int (zI x2)), (4, .int (zI x4))] → pX2_greatestPart_25 k7 x0 x1 x2 x4 = some r → W p l e rmX2_greatestPart s m args below meth c H locs 0 0 Q (F0 m 25 ls []) := by
  obtain ⟨hx, hb, hr, hml, hown, hts, hlk, hK, hN⟩ := id C
  intro x0 x1 x2 x4 H locs ls hw hl hf
  rw [pX2_greatestPart_25] at hf
  refine lv_iconst (v := zI 0) hx hb dX2_greatestPart_25 rfl ?_
  refine lv_istore_n (lv' := [(3, .int (zI 0)), (0, .int (zI x0)), (1, .int (zI x1)), (2, .int (zI x2)), (4, .int (zI x4))]) hx hb dX2_greatestPart_26 rfl hl (by decide) rfl (fun ls hl => ?_)
  exact wX2_greatestPart_27 C hret _ hk7 x0 x1 x2 0 x4 H locs ls hw (lv_sub hl [1, 2, 3, 0, 4] rfl) hf
set_option maxHeartbeats 4000000 in
set_option maxRecDepth 100000 in
theorem wX2_greatestPart_7 {p : Program} {l : Launch} {e : Env} {s : State} {m : MethodId} {args : Array Value} {below : List Frame} {meth : Method} {c : Code} {D : va_G} {A : Nat → Prop} {w : va_W} {cI cZ : ClassId} {Q : State → Prop} {r : Int} (C : Cx p s m args meth c D (TY cI cZ) cX2_greatestPart (some .int) 5 wsX2_greatestPart RX2) (hret : RtI p l e rmX2_greatestPart s m args below meth c D A cX2_greatestPart Q (w) (zI r)) :
    ∀ (n : Nat) (x0 : Int) (x1 : Int) (x2 : Int) (x3 : Int) (x4 : Int) (H : Heap) (locs : List Loc) (ls : Array Slot), Wd D A s (w) H locs → lv_has ls 5 [(0, .int (zI x0)), (1, .int (zI x1)), (2, .int (zI x2)), (3, .int (zI x3)), (4, .int (zI x4))] → pX2_greatestPart_7 n x0 x1 x2 x3 x4 = some r → W p l e rmX2_greatestPart s m args below meth c H locs 0 0 Q (F0 m 7 ls []) := by
  obtain ⟨hx, hb, hr, hml, hown, hts, hlk, hK, hN⟩ := id C
  intro n
  induction n with
  | zero =>
    intro x0 x1 x2 x3 x4 H locs ls hw hl hf
    exact absurd (show (none : Option (Int)) = some r from hf) (by simp)
  | succ n ih =>
    intro x0 x1 x2 x3 x4 H locs ls hw hl hf
    rw [pX2_greatestPart_7] at hf
    refine lv_iload hx hb dX2_greatestPart_7 (lv_at hl 4 rfl) ?_
    refine lv_bipush (v := zI 30) hx hb dX2_greatestPart_9 (by decide +kernel) ?_
    obtain ⟨hg11, hf⟩ := gd_s hf
    refine zv_icmp_gt (tgt := 48) hx hb ⟨hg11, by decide⟩ dX2_greatestPart_11 (by decide) (fun (c11 : 30 < x4) => ?_) (fun (c11 : ¬ (30 < x4)) => ?_)
    · rw [if_pos c11] at hf
      refine lv_iload_n hx hb dX2_greatestPart_48 rfl (lv_at hl 2 rfl) ?_
      cases hf
      exact hret H locs ls 49 dX2_greatestPart_49 hw
    · rw [if_neg c11] at hf
      refine lv_iload_n hx hb dX2_greatestPart_14 rfl (lv_at hl 1 rfl) ?_
      obtain ⟨hg15, hf⟩ := gd_s hf
      refine zv_if_le (tgt := 25) hx hb hg15 dX2_greatestPart_15 (by decide) (fun (c15 : x1 ≤ 0) => ?_) (fun (c15 : ¬ (x1 ≤ 0)) => ?_)
      · rw [if_pos c15] at hf
        exact wX2_greatestPart_25 C hret _ ih x0 x1 x2 x4 H locs ls hw (lv_sub hl [0, 1, 2, 4] rfl) hf
      · rw [if_neg c15] at hf
        refine lv_iload hx hb dX2_greatestPart_18 (lv_at hl 4 rfl) ?_
        refine lv_iload_n hx hb dX2_greatestPart_20 rfl (lv_at hl 1 rfl) ?_
        obtain ⟨hz21, hf⟩ := gd_s hf
        refine zv_irem hx hb hz21 dX2_greatestPart_21 ?_
        obtain ⟨hg22, hf⟩ := gd_s hf
        refine zv_if_ne (tgt := 27) hx hb hg22 dX2_greatestPart_22 (by decide) (fun (c22 : ¬ ((x4 % x1) = 0)) => ?_) (fun (c22 : (x4 % x1) = 0) => ?_)
        · rw [if_neg c22] at hf
          exact wX2_greatestPart_27 C hret _ ih x0 x1 x2 x3 x4 H locs ls hw (lv_sub hl [0, 1, 2, 3, 4] rfl) hf
        · rw [if_pos c22] at hf
          exact wX2_greatestPart_25 C hret _ ih x0 x1 x2 x4 H locs ls hw (lv_sub hl [0, 1, 2, 4] rfl) hf
set_option maxHeartbeats 4000000 in
set_option maxRecDepth 100000 in
theorem wX2_greatestPart_0 {p : Program} {l : Launch} {e : Env} {s : State} {m : MethodId} {args : Array Value} {below : List Frame} {meth : Method} {c : Code} {D : va_G} {A : Nat → Prop} {w : va_W} {cI cZ : ClassId} {Q : State → Prop} {r : Int} (C : Cx p s m args meth c D (TY cI cZ) cX2_greatestPart (some .int) 5 wsX2_greatestPart RX2) (hret : RtI p l e rmX2_greatestPart s m args below meth c D A cX2_greatestPart Q (w) (zI r)) :
    ∀ (x0 : Int) (x1 : Int) (H : Heap) (locs : List Loc) (ls : Array Slot), Wd D A s (w) H locs → lv_has ls 5 [(0, .int (zI x0)), (1, .int (zI x1))] → pX2_greatestPart_0 x0 x1 = some r → W p l e rmX2_greatestPart s m args below meth c H locs 0 0 Q (F0 m 0 ls []) := by
  obtain ⟨hx, hb, hr, hml, hown, hts, hlk, hK, hN⟩ := id C
  intro x0 x1 H locs ls hw hl hf
  rw [pX2_greatestPart_0] at hf
  refine lv_iconst (v := zI 0) hx hb dX2_greatestPart_0 rfl ?_
  refine lv_istore_n (lv' := [(2, .int (zI 0)), (0, .int (zI x0)), (1, .int (zI x1))]) hx hb dX2_greatestPart_1 rfl hl (by decide) rfl (fun ls hl => ?_)
  refine lv_iconst (v := zI 0) hx hb dX2_greatestPart_2 rfl ?_
  refine lv_istore_n (lv' := [(3, .int (zI 0)), (2, .int (zI 0)), (0, .int (zI x0)), (1, .int (zI x1))]) hx hb dX2_greatestPart_3 rfl hl (by decide) rfl (fun ls hl => ?_)
  refine lv_iconst (v := zI 0) hx hb dX2_greatestPart_4 rfl ?_
  refine lv_istore (lv' := [(4, .int (zI 0)), (3, .int (zI 0)), (2, .int (zI 0)), (0, .int (zI x0)), (1, .int (zI x1))]) hx hb dX2_greatestPart_5 hl (by decide) rfl (fun ls hl => ?_)
  exact wX2_greatestPart_7 C hret FU x0 x1 0 0 0 H locs ls hw (lv_sub hl [3, 4, 2, 1, 0] rfl) hf
set_option maxHeartbeats 4000000 in
set_option maxRecDepth 100000 in
theorem tX2_greatestPart {l : Launch} {D : va_G} {A : Nat → Prop} {cI cZ : ClassId} {w : va_W} {x0 : Int} {x1 : Int} {r : Int} (hf : pX2_greatestPart x0 x1 = some r) : Met l yX2_greatestPart wsX2_greatestPart rmX2_greatestPart (va_Pc [.int (zI x0), .int (zI x1)] (CX D (TY cI cZ) A (w))) (QI D (TY cI cZ) A (w) (zI r)) 0 0 A := by
  refine opn (cc := cX2_greatestPart) (maxL := 5) (ret := (some .int)) (by decide) rfl (Nat.le_of_ble_eq_true rfl) (fun p e s m below meth c C ls hw hl => ?_)
  have hl : lv_has ls 5 [(0, .int (zI x0)), (1, .int (zI x1))] := hl
  rw [pX2_greatestPart] at hf
  exact wX2_greatestPart_0 C (rtI C) x0 x1 _ _ ls hw (lv_sub hl [0, 1] rfl) hf
abbrev rmX2_bestTest : Room := { frames := 2, cells := 0, slots := 0, locals := 54 }
set_option maxHeartbeats 4000000 in
set_option maxRecDepth 100000 in
theorem wX2_bestTest_42 {p : Program} {l : Launch} {e : Env} {s : State} {m : MethodId} {args : Array Value} {below : List Frame} {meth : Method} {c : Code} {D : va_G} {A : Nat → Prop} {q : Nat → Nat} {cI cZ : ClassId} {Q : State → Prop} {σ : St} {r : Int} (C : Cx p s m args meth c D (TY cI cZ) cX2_bestTest (some .int) 6 wsX2_bestTest RX2) (hret : RtI p l e rmX2_bestTest s m args below meth c D A cX2_bestTest Q (wE q cI cZ σ) (zI r)) (k15 : Int → Int → Int → Int → Option (Int)) (hk15 : ∀ (x1 : Int) (x2 : Int) (x3 : Int) (x4 : Int) (H : Heap) (locs : List Loc) (ls : Array Slot), Wd D A s (wE q cI cZ σ) H locs → lv_has ls 6 [(1, .int (zI x1)), (2, .int (zI x2)), (3, .int (zI x3)), (4, .int (zI x4))] → k15 x1 x2 x3 x4 = some r → W p l e rmX2_bestTest s m args below meth c H locs 0 0 Q (F0 m 15 ls [])) :
    ∀ (x1 : Int) (x2 : Int) (x3 : Int) (x4 : Int) (H : Heap) (locs : List Loc) (ls : Array Slot), Wd D A s (wE q cI cZ σ) H locs → lv_has ls 6 [(1, .int (zI x1)), (2, .int (zI x2)), (3, .int (zI x3)), (4, .int (zI x4))] → pX2_bestTest_42 k15 σ x1 x2 x3 x4 = some r → W p l e rmX2_bestTest s m args below meth c H locs 0 0 Q (F0 m 42 ls []) := by
  obtain ⟨hx, hb, hr, hml, hown, hts, hlk, hK, hN⟩ := id C
  intro x1 x2 x3 x4 H locs ls hw hl hf
  rw [pX2_bestTest_42] at hf
  refine lv_iinc (v := zI (x4 + 1)) (lv' := [(4, .int (zI (x4 + 1))), (1, .int (zI x1)), (2, .int (zI x2)), (3, .int (zI x3))]) hx hb dX2_bestTest_42 hl (k := 3) rfl (zI_add _ _) (by decide) rfl (fun ls hl => ?_)
  refine lv_goto (tgt := 15) hx hb dX2_bestTest_45 (by decide) ?_
  exact hk15 x1 x2 x3 (x4 + 1) H locs ls hw (lv_sub hl [1, 2, 3, 0] rfl) hf
set_option maxHeartbeats 4000000 in
set_option maxRecDepth 100000 in
theorem wX2_bestTest_15 {p : Program} {l : Launch} {e : Env} {s : State} {m : MethodId} {args : Array Value} {below : List Frame} {meth : Method} {c : Code} {D : va_G} {A : Nat → Prop} {q : Nat → Nat} {cI cZ : ClassId} {Q : State → Prop} {σ : St} {r : Int} (C : Cx p s m args meth c D (TY cI cZ) cX2_bestTest (some .int) 6 wsX2_bestTest RX2) (hret : RtI p l e rmX2_bestTest s m args below meth c D A cX2_bestTest Q (wE q cI cZ σ) (zI r)) :
    ∀ (n : Nat) (x1 : Int) (x2 : Int) (x3 : Int) (x4 : Int) (H : Heap) (locs : List Loc) (ls : Array Slot), Wd D A s (wE q cI cZ σ) H locs → lv_has ls 6 [(1, .int (zI x1)), (2, .int (zI x2)), (3, .int (zI x3)), (4, .int (zI x4))] → pX2_bestTest_15 σ n x1 x2 x3 x4 = some r → W p l e rmX2_bestTest s m args below meth c H locs 0 0 Q (F0 m 15 ls []) := by
  obtain ⟨hx, hb, hr, hml, hown, hts, hlk, hK, hN⟩ := id C
  intro n
  induction n with
  | zero =>
    intro x1 x2 x3 x4 H locs ls hw hl hf
    exact absurd (show (none : Option (Int)) = some r from hf) (by simp)
  | succ n ih =>
    intro x1 x2 x3 x4 H locs ls hw hl hf
    rw [pX2_bestTest_15] at hf
    refine lv_iload hx hb dX2_bestTest_15 (lv_at hl 3 rfl) ?_
    refine lv_bipush (v := zI 9) hx hb dX2_bestTest_17 (by decide +kernel) ?_
    obtain ⟨hg19, hf⟩ := gd_s hf
    refine zv_icmp_gt (tgt := 48) hx hb ⟨hg19, by decide⟩ dX2_bestTest_19 (by decide) (fun (c19 : 9 < x4) => ?_) (fun (c19 : ¬ (9 < x4)) => ?_)
    · rw [if_pos c19] at hf
      refine lv_iload_n hx hb dX2_bestTest_48 rfl (lv_at hl 1 rfl) ?_
      cases hf
      exact hret H locs ls 49 dX2_bestTest_49 hw
    · rw [if_neg c19] at hf
      refine lv_iload_n hx hb dX2_bestTest_22 rfl (lv_at hl 0 rfl) ?_
      refine lv_iload hx hb dX2_bestTest_23 (lv_at hl 3 rfl) ?_
      obtain ⟨r25, h25, hf⟩ := bd_s hf
      replace hf := bt_s hf
      refine gSi (As := [.int (zI x1), .int (zI x4)]) (rest := []) C hw (tX2_greatestPart h25) (va_cwS 2 hts gX2_bestTest_X2_greatestPart rfl rfl rfl (by decide +kernel) ⟨Nat.le_of_ble_eq_true rfl, Nat.le_of_ble_eq_true rfl⟩) rfl hl.1 rfl (Nat.le_of_ble_eq_true rfl) dX2_bestTest_25 (fun H locs hw => ?_)
      refine lv_istore (lv' := [(5, .int (zI r25)), (1, .int (zI x1)), (2, .int (zI x2)), (3, .int (zI x3)), (4, .int (zI x4))]) hx hb dX2_bestTest_28 hl (by decide) rfl (fun ls hl => ?_)
      refine lv_iload hx hb dX2_bestTest_30 (lv_at hl 0 rfl) ?_
      refine lv_iload_n hx hb dX2_bestTest_32 rfl (lv_at hl 3 rfl) ?_
      obtain ⟨hg33, hf⟩ := gd_s hf
      refine zv_icmp_ge (tgt := 42) hx hb hg33 dX2_bestTest_33 (by decide) (fun (c33 : x3 ≤ r25) => ?_) (fun (c33 : ¬ (x3 ≤ r25)) => ?_)
      · rw [if_pos c33] at hf
        exact wX2_bestTest_42 C hret _ ih x1 x2 x3 x4 H locs ls hw (lv_sub hl [1, 2, 3, 4] rfl) hf
      · rw [if_neg c33] at hf
        refine lv_iload hx hb dX2_bestTest_36 (lv_at hl 0 rfl) ?_
        refine lv_istore_n (lv' := [(3, .int (zI r25)), (5, .int (zI r25)), (1, .int (zI x1)), (2, .int (zI x2)), (4, .int (zI x4))]) hx hb dX2_bestTest_38 rfl hl (by decide) rfl (fun ls hl => ?_)
        refine lv_iload hx hb dX2_bestTest_39 (lv_at hl 4 rfl) ?_
        refine lv_istore_n (lv' := [(2, .int (zI x4)), (3, .int (zI r25)), (5, .int (zI r25)), (1, .int (zI x1)), (4, .int (zI x4))]) hx hb dX2_bestTest_41 rfl hl (by decide) rfl (fun ls hl => ?_)
        exact wX2_bestTest_42 C hret _ ih x1 x4 r25 x4 H locs ls hw (lv_sub hl [3, 0, 1, 4] rfl) hf
set_option maxHeartbeats 4000000 in
set_option maxRecDepth 100000 in
theorem wX2_bestTest_0 {p : Program} {l : Launch} {e : Env} {s : State} {m : MethodId} {args : Array Value} {below : List Frame} {meth : Method} {c : Code} {D : va_G} {A : Nat → Prop} {q : Nat → Nat} {cI cZ : ClassId} {Q : State → Prop} {σ : St} {r : Int} (C : Cx p s m args meth c D (TY cI cZ) cX2_bestTest (some .int) 6 wsX2_bestTest RX2) (hret : RtI p l e rmX2_bestTest s m args below meth c D A cX2_bestTest Q (wE q cI cZ σ) (zI r)) :
    ∀ (H : Heap) (locs : List Loc) (ls : Array Slot), Wd D A s (wE q cI cZ σ) H locs → lv_has ls 6 [(0, .ref (q 24))] → pX2_bestTest_0 σ = some r → W p l e rmX2_bestTest s m args below meth c H locs 0 0 Q (F0 m 0 ls []) := by
  obtain ⟨hx, hb, hr, hml, hown, hts, hlk, hK, hN⟩ := id C
  intro H locs ls hw hl hf
  rw [pX2_bestTest_0] at hf
  refine lv_aload_n hx hb dX2_bestTest_0 rfl (lv_at hl 0 rfl) ?_
  obtain ⟨r1, h1, hf⟩ := bd_s hf
  replace hf := bt_s hf
  refine gVi (As := []) (rest := []) C hw (tX2_fittingAges h1) (cwV 0 hts gX2_bestTest_X2_fittingAges rfl rfl rfl (by decide +kernel) ⟨Nat.le_of_ble_eq_true rfl, Nat.le_of_ble_eq_true rfl⟩) 2 24 rfl rfl rfl hl.1 rfl (Nat.le_of_ble_eq_true rfl) dX2_bestTest_1 (fun H locs hw => ?_)
  refine lv_istore_n (lv' := [(1, .int (zI r1)), (0, .ref (q 24))]) hx hb dX2_bestTest_4 rfl hl (by decide) rfl (fun ls hl => ?_)
  refine lv_iconst (v := zI (-1)) hx hb dX2_bestTest_5 rfl ?_
  refine lv_istore_n (lv' := [(2, .int (zI (-1))), (1, .int (zI r1)), (0, .ref (q 24))]) hx hb dX2_bestTest_6 rfl hl (by decide) rfl (fun ls hl => ?_)
  refine lv_iload_n hx hb dX2_bestTest_7 rfl (lv_at hl 1 rfl) ?_
  obtain ⟨r8, h8, hf⟩ := bd_s hf
  replace hf := bt_s hf
  refine gSi (As := [.int (zI r1)]) (rest := []) C hw (tJ6_bitCount_0f7a4 h8) (va_cwS 1 hts gX2_bestTest_J6_bitCount_0f7a4 rfl rfl rfl (by decide +kernel) ⟨Nat.le_of_ble_eq_true rfl, Nat.le_of_ble_eq_true rfl⟩) rfl hl.1 rfl (Nat.le_of_ble_eq_true rfl) dX2_bestTest_8 (fun H locs hw => ?_)
  refine lv_istore_n (lv' := [(3, .int (zI r8)), (2, .int (zI (-1))), (1, .int (zI r1)), (0, .ref (q 24))]) hx hb dX2_bestTest_11 rfl hl (by decide) rfl (fun ls hl => ?_)
  refine lv_iconst (v := zI 1) hx hb dX2_bestTest_12 rfl ?_
  refine lv_istore (lv' := [(4, .int (zI 1)), (3, .int (zI r8)), (2, .int (zI (-1))), (1, .int (zI r1)), (0, .ref (q 24))]) hx hb dX2_bestTest_13 hl (by decide) rfl (fun ls hl => ?_)
  exact wX2_bestTest_15 C hret FU r1 (-1) r8 1 H locs ls hw (lv_sub hl [3, 2, 1, 0] rfl) hf
set_option maxHeartbeats 4000000 in
set_option maxRecDepth 100000 in
theorem tX2_bestTest {l : Launch} {D : va_G} {A : Nat → Prop} {cI cZ : ClassId} {q : Nat → Nat} {σ : St} {r : Int} (hf : pX2_bestTest σ = some r) : Met l yX2_bestTest wsX2_bestTest rmX2_bestTest (va_Pc [.ref (q 24)] (CX D (TY cI cZ) A (wE q cI cZ σ))) (QI D (TY cI cZ) A (wE q cI cZ σ) (zI r)) 0 0 A := by
  refine opn (cc := cX2_bestTest) (maxL := 6) (ret := (some .int)) (by decide) rfl (Nat.le_of_ble_eq_true rfl) (fun p e s m below meth c C ls hw hl => ?_)
  have hl : lv_has ls 6 [(0, .ref (q 24))] := hl
  rw [pX2_bestTest] at hf
  exact wX2_bestTest_0 C (rtI C) _ _ ls hw (lv_sub hl [0] rfl) hf
abbrev rmX10_testNext : Room := { frames := 3, cells := 0, slots := 0, locals := 79 }
set_option maxHeartbeats 4000000 in
set_option maxRecDepth 100000 in
theorem wX10_testNext_0 {p : Program} {l : Launch} {e : Env} {s : State} {m : MethodId} {args : Array Value} {below : List Frame} {meth : Method} {c : Code} {D : va_G} {A : Nat → Prop} {q : Nat → Nat} {cI cZ : ClassId} {Q : State → Prop} {σ : St} {r : Int} (C : Cx p s m args meth c D (TY cI cZ) cX10_testNext (some .int) 1 wsX10_testNext RX10) (hret : RtI p l e rmX10_testNext s m args below meth c D A cX10_testNext Q (wE q cI cZ σ) (zI r)) :
    ∀ (H : Heap) (locs : List Loc) (ls : Array Slot), Wd D A s (wE q cI cZ σ) H locs → lv_has ls 1 [(0, .ref (q 0))] → pX10_testNext_0 σ = some r → W p l e rmX10_testNext s m args below meth c H locs 0 0 Q (F0 m 0 ls []) := by
  obtain ⟨hx, hb, hr, hml, hown, hts, hlk, hK, hN⟩ := id C
  intro H locs ls hw hl hf
  rw [pX10_testNext_0] at hf
  refine lv_aload_n hx hb dX10_testNext_0 rfl (lv_at hl 0 rfl) ?_
  refine va_get (D := D) (ci := 10) (v := .ref (q 24)) (C := RX10) (T := TX10) (N := 13) hx hb hts (fun _ h => List.mem_cons_of_mem _ (List.mem_append_left _ (List.mem_append_right _ h))) hown hK hw.1 0 rfl rfl 6 (by decide) (hts (.fieldLink RX10 52 "EggThrones" "clues" "LEggThrones$Clues;") (List.mem_of_getElem? (i := 1) rfl)) (fun _ h9 => h9) rfl dX10_testNext_1 ?_
  obtain ⟨r4, h4, hf⟩ := bd_s hf
  replace hf := bt_s hf
  refine gVi (As := []) (rest := []) C hw (tX2_bestTest h4) (cwV 0 hts gX10_testNext_X2_bestTest rfl rfl rfl (by decide +kernel) ⟨Nat.le_of_ble_eq_true rfl, Nat.le_of_ble_eq_true rfl⟩) 2 24 rfl rfl rfl hl.1 rfl (Nat.le_of_ble_eq_true rfl) dX10_testNext_4 (fun H locs hw => ?_)
  cases hf
  exact hret H locs ls 7 dX10_testNext_7 hw
set_option maxHeartbeats 4000000 in
set_option maxRecDepth 100000 in
theorem tX10_testNext {l : Launch} {D : va_G} {A : Nat → Prop} {cI cZ : ClassId} {q : Nat → Nat} {σ : St} {r : Int} (hf : pX10_testNext σ = some r) : Met l yX10_testNext wsX10_testNext rmX10_testNext (va_Pc [.ref (q 0)] (CX D (TY cI cZ) A (wE q cI cZ σ))) (QI D (TY cI cZ) A (wE q cI cZ σ) (zI r)) 0 0 A := by
  refine opn (cc := cX10_testNext) (maxL := 1) (ret := (some .int)) (by decide) rfl (Nat.le_of_ble_eq_true rfl) (fun p e s m below meth c C ls hw hl => ?_)
  have hl : lv_has ls 1 [(0, .ref (q 0))] := hl
  rw [pX10_testNext] at hf
  exact wX10_testNext_0 C (rtI C) _ _ ls hw (lv_sub hl [0] rfl) hf
abbrev rmX11_greatestPart : Room := { frames := 1, cells := 0, slots := 0, locals := 23 }
set_option maxHeartbeats 4000000 in
set_option maxRecDepth 100000 in
theorem wX11_greatestPart_76 {p : Program} {l : Launch} {e : Env} {s : State} {m : MethodId} {args : Array Value} {below : List Frame} {meth : Method} {c : Code} {D : va_G} {A : Nat → Prop} {q : Nat → Nat} {cI cZ : ClassId} {Q : State → Prop} {r : Int} {τ : St} (C : Cx p s m args meth c D (TY cI cZ) cX11_greatestPart (some .int) 4 wsX11_greatestPart RX11) (hret : RtI p l e rmX11_greatestPart s m args below meth c D A cX11_greatestPart Q (wM q cI cZ τ) (zI r)) (k25 : St → Int → Int → Int → Option (Int × St)) (hk25 : ∀ (σ : St) (x1 : Int) (x2 : Int) (x3 : Int) (H : Heap) (locs : List Loc) (ls : Array Slot), Wd D A s (wM q cI cZ σ) H locs → lv_has ls 4 [(0, .ref (q 0)), (1, .int (zI x1)), (2, .int (zI x2)), (3, .int (zI x3))] → k25 σ x1 x2 x3 = some (r, τ) → W p l e rmX11_greatestPart s m args below meth c H locs 0 0 Q (F0 m 25 ls [])) :
    ∀ (σ : St) (x1 : Int) (x2 : Int) (x3 : Int) (H : Heap) (locs : List Loc) (ls : Array Slot), Wd D A s (wM q cI cZ σ) H locs → lv_has ls 4 [(0, .ref (q 0)), (1, .int (zI x1)), (2, .int (zI x2)), (3, .int (zI x3))] → pX11_greatestPart_76 k25 σ x1 x2 x3 = some (r, τ) → W p l e rmX11_greatestPart s m args below meth c H locs 0 0 Q (F0 m 76 ls []) := by
  obtain ⟨hx, hb, hr, hml, hown, hts, hlk, hK, hN⟩ := id C
  intro σ x1 x2 x3 H locs ls hw hl hf
  rw [pX11_greatestPart_76] at hf
  refine lv_iinc (v := zI (x3 + 1)) (lv' := [(3, .int (zI (x3 + 1))), (0, .ref (q 0)), (1, .int (zI x1)), (2, .int (zI x2))]) hx hb dX11_greatestPart_76 hl (k := 3) rfl (zI_add _ _) (by decide) rfl (fun ls hl => ?_)
  refine lv_goto (tgt := 25) hx hb dX11_greatestPart_79 (by decide) ?_
  exact hk25 σ x1 x2 (x3 + 1) H locs ls hw (lv_sub hl [1, 2, 3, 0] rfl) hf
set_option maxHeartbeats 4000000 in
set_option maxRecDepth 100000 in
theorem wX11_greatestPart_75 {p : Program} {l : Launch} {e : Env} {s : State} {m : MethodId} {args : Array Value} {below : List Frame} {meth : Method} {c : Code} {D : va_G} {A : Nat → Prop} {q : Nat → Nat} {cI cZ : ClassId} {Q : State → Prop} {r : Int} {τ : St} (C : Cx p s m args meth c D (TY cI cZ) cX11_greatestPart (some .int) 4 wsX11_greatestPart RX11) (hret : RtI p l e rmX11_greatestPart s m args below meth c D A cX11_greatestPart Q (wM q cI cZ τ) (zI r)) (k25 : St → Int → Int → Int → Option (Int × St)) (hk25 : ∀ (σ : St) (x1 : Int) (x2 : Int) (x3 : Int) (H : Heap) (locs : List Loc) (ls : Array Slot), Wd D A s (wM q cI cZ σ) H locs → lv_has ls 4 [(0, .ref (q 0)), (1, .int (zI x1)), (2, .int (zI x2)), (3, .int (zI x3))] → k25 σ x1 x2 x3 = some (r, τ) → W p l e rmX11_greatestPart s m args below meth c H locs 0 0 Q (F0 m 25 ls [])) :
    ∀ (σ : St) (x1 : Int) (x3 : Int) (t0 : Int) (H : Heap) (locs : List Loc) (ls : Array Slot), Wd D A s (wM q cI cZ σ) H locs → lv_has ls 4 [(0, .ref (q 0)), (1, .int (zI x1)), (3, .int (zI x3))] → pX11_greatestPart_75 k25 σ x1 x3 t0 = some (r, τ) → W p l e rmX11_greatestPart s m args below meth c H locs 0 0 Q (F0 m 75 ls [.int (zI t0)]) := by
  obtain ⟨hx, hb, hr, hml, hown, hts, hlk, hK, hN⟩ := id C
  intro σ x1 x3 t0 H locs ls hw hl hf
  rw [pX11_greatestPart_75] at hf
  refine lv_istore_n (lv' := [(2, .int (zI t0)), (0, .ref (q 0)), (1, .int (zI x1)), (3, .int (zI x3))]) hx hb dX11_greatestPart_75 rfl hl (by decide) rfl (fun ls hl => ?_)
  exact wX11_greatestPart_76 C hret _ hk25 σ x1 t0 x3 H locs ls hw (lv_sub hl [1, 2, 0, 3] rfl) hf
set_option maxHeartbeats 4000000 in
set_option maxRecDepth 100000 in
theorem wX11_greatestPart_25 {p : Program} {l : Launch} {e : Env} {s : State} {m : MethodId} {args : Array Value} {below : List Frame} {meth : Method} {c : Code} {D : va_G} {A : Nat → Prop} {q : Nat → Nat} {cI cZ : ClassId} {Q : State → Prop} {r : Int} {τ : St} (C : Cx p s m args meth c D (TY cI cZ) cX11_greatestPart (some .int) 4 wsX11_greatestPart RX11) (hret : RtI p l e rmX11_greatestPart s m args below meth c D A cX11_greatestPart Q (wM q cI cZ τ) (zI r)) :
    ∀ (n : Nat) (σ : St) (x1 : Int) (x2 : Int) (x3 : Int) (H : Heap) (locs : List Loc) (ls : Array Slot), Wd D A s (wM q cI cZ σ) H locs → lv_has ls 4 [(0, .ref (q 0)), (1, .int (zI x1)), (2, .int (zI x2)), (3, .int (zI x3))] → pX11_greatestPart_25 n σ x1 x2 x3 = some (r, τ) → W p l e rmX11_greatestPart s m args below meth c H locs 0 0 Q (F0 m 25 ls []) := by
  obtain ⟨hx, hb, hr, hml, hown, hts, hlk, hK, hN⟩ := id C
  intro n
  induction n with
  | zero =>
    intro σ x1 x2 x3 H locs ls hw hl hf
    exact absurd (show (none : Option (Int × St)) = some (r, τ) from hf) (by simp)
  | succ n ih =>
    intro σ x1 x2 x3 H locs ls hw hl hf
    rw [pX11_greatestPart_25] at hf
    refine lv_iload_n hx hb dX11_greatestPart_25 rfl (lv_at hl 3 rfl) ?_
    refine lv_bipush (v := zI 31) hx hb dX11_greatestPart_26 (by decide +kernel) ?_
    obtain ⟨hg28, hf⟩ := gd_s hf
    refine zv_icmp_ge (tgt := 82) hx hb ⟨hg28, by decide⟩ dX11_greatestPart_28 (by decide) (fun (c28 : 31 ≤ x3) => ?_) (fun (c28 : ¬ (31 ≤ x3)) => ?_)
    · rw [if_pos c28] at hf
      refine lv_iload_n hx hb dX11_greatestPart_82 rfl (lv_at hl 2 rfl) ?_
      cases hf
      exact hret H locs ls 83 dX11_greatestPart_83 hw
    · rw [if_neg c28] at hf
      refine lv_aload_n hx hb dX11_greatestPart_31 rfl (lv_at hl 0 rfl) ?_
      refine lv_iload_n hx hb dX11_greatestPart_32 rfl (lv_at hl 3 rfl) ?_
      obtain ⟨r33, h33, hf⟩ := bd_s hf
      replace hf := bt_s hf
      refine gVi (As := [.int (zI x3)]) (rest := []) C hw (tX11_couldBe h33) (cwV 1 hts gX11_greatestPart_X11_couldBe rfl rfl rfl (by decide +kernel) ⟨Nat.le_of_ble_eq_true rfl, Nat.le_of_ble_eq_true rfl⟩) 11 0 rfl rfl rfl hl.1 rfl (Nat.le_of_ble_eq_true rfl) dX11_greatestPart_33 (fun H locs hw => ?_)
      obtain ⟨hg36, hf⟩ := gd_s hf
      refine zv_if_eq (tgt := 76) hx hb hg36 dX11_greatestPart_36 (by decide) (fun (c36 : r33 = 0) => ?_) (fun (c36 : ¬ (r33 = 0)) => ?_)
      · rw [if_pos c36] at hf
        exact wX11_greatestPart_76 C hret _ ih σ x1 x2 x3 H locs ls hw (lv_sub hl [0, 1, 2, 3] rfl) hf
      · rw [if_neg c36] at hf
        refine lv_aload_n hx hb dX11_greatestPart_39 rfl (lv_at hl 0 rfl) ?_
        refine va_get (D := D) (ci := 11) (v := .ref (q 21)) (C := RX11) (T := TX11) (N := 40) hx hb hts (fun _ h => List.mem_cons_of_mem _ (List.mem_append_right _ h)) hown hK hw.1 0 rfl rfl 34 (by decide) (hts (.fieldLink RX11 74 "EggThronesModel" "parts" "[I") (List.mem_of_getElem? (i := 1) rfl)) (fun _ h9 => h9) rfl dX11_greatestPart_40 ?_
        refine lv_iload_n hx hb dX11_greatestPart_43 rfl (lv_at hl 3 rfl) ?_
        refine lv_iload_n hx hb dX11_greatestPart_44 rfl (lv_at hl 1 rfl) ?_
        obtain ⟨hz45, hf⟩ := gd_s hf
        refine zv_idiv hx hb hz45 dX11_greatestPart_45 ?_
        refine lv_dup2_11 hx hb dX11_greatestPart_46 rfl rfl ?_
        obtain ⟨hi47, hf⟩ := gd_s hf
        refine zv_iald (D := D) hx hb hK hw.1 21 0 rfl rfl hi47 (by decide) dX11_greatestPart_47 ?_
        refine lv_iconst (v := zI 1) hx hb dX11_greatestPart_48 rfl ?_
        refine zv_iadd hx hb dX11_greatestPart_49 ?_
        obtain ⟨hi50, hf⟩ := gd_s hf
        refine zv_iast (D := D) hx hb hK hw.1 hw.2.1 hw.2.2 21 0 rfl rfl hi50 (by decide) dX11_greatestPart_50 (fun H locs hP hD hS => ?_)
        have hw : Wd D A s (wM q cI cZ (sA σ 20 (va_up (σ.2 20) (Int.toNat (x3 / x1)) ((σ.2 20 (Int.toNat (x3 / x1))) + 1)))) H locs := wdaM_20 hP hD hS
        obtain ⟨σ50, e50, hf⟩ := nm_s hf
        replace hf := bt_s hf
        rw [← e50] at hw
        refine lv_aload_n hx hb dX11_greatestPart_51 rfl (lv_at hl 0 rfl) ?_
        refine va_get (D := D) (ci := 11) (v := .ref (q 21)) (C := RX11) (T := TX11) (N := 40) hx hb hts (fun _ h => List.mem_cons_of_mem _ (List.mem_append_right _ h)) hown hK hw.1 0 rfl rfl 34 (by decide) (hts (.fieldLink RX11 74 "EggThronesModel" "parts" "[I") (List.mem_of_getElem? (i := 1) rfl)) (fun _ h9 => h9) rfl dX11_greatestPart_52 ?_
        refine lv_iload_n hx hb dX11_greatestPart_55 rfl (lv_at hl 3 rfl) ?_
        refine lv_iload_n hx hb dX11_greatestPart_56 rfl (lv_at hl 1 rfl) ?_
        obtain ⟨hz57, hf⟩ := gd_s hf
        refine zv_idiv hx hb hz57 dX11_greatestPart_57 ?_
        obtain ⟨hi58, hf⟩ := gd_s hf
        refine zv_iald (D := D) hx hb hK hw.1 21 0 rfl rfl hi58 (by decide) dX11_greatestPart_58 ?_
        refine lv_iload_n hx hb dX11_greatestPart_59 rfl (lv_at hl 2 rfl) ?_
        obtain ⟨hg60, hf⟩ := gd_s hf
        refine zv_icmp_le (tgt := 74) hx hb hg60 dX11_greatestPart_60 (by decide) (fun (c60 : (σ50.2 20 (Int.toNat (x3 / x1))) ≤ x2) => ?_) (fun (c60 : ¬ ((σ50.2 20 (Int.toNat (x3 / x1))) ≤ x2)) => ?_)
        · rw [if_pos c60] at hf
          refine lv_iload_n hx hb dX11_greatestPart_74 rfl (lv_at hl 2 rfl) ?_
          exact wX11_greatestPart_75 C hret _ ih σ50 x1 x3 x2 H locs ls hw (lv_sub hl [0, 1, 3] rfl) hf
        · rw [if_neg c60] at hf
          refine lv_aload_n hx hb dX11_greatestPart_63 rfl (lv_at hl 0 rfl) ?_
          refine va_get (D := D) (ci := 11) (v := .ref (q 21)) (C := RX11) (T := TX11) (N := 40) hx hb hts (fun _ h => List.mem_cons_of_mem _ (List.mem_append_right _ h)) hown hK hw.1 0 rfl rfl 34 (by decide) (hts (.fieldLink RX11 74 "EggThronesModel" "parts" "[I") (List.mem_of_getElem? (i := 1) rfl)) (fun _ h9 => h9) rfl dX11_greatestPart_64 ?_
          refine lv_iload_n hx hb dX11_greatestPart_67 rfl (lv_at hl 3 rfl) ?_
          refine lv_iload_n hx hb dX11_greatestPart_68 rfl (lv_at hl 1 rfl) ?_
          obtain ⟨hz69, hf⟩ := gd_s hf
          refine zv_idiv hx hb hz69 dX11_greatestPart_69 ?_
          obtain ⟨hi70, hf⟩ := gd_s hf
          refine zv_iald (D := D) hx hb hK hw.1 21 0 rfl rfl hi70 (by decide) dX11_greatestPart_70 ?_
          refine lv_goto (tgt := 75) hx hb dX11_greatestPart_71 (by decide) ?_
          exact wX11_greatestPart_75 C hret _ ih σ50 x1 x3 (σ50.2 20 (Int.toNat (x3 / x1))) H locs ls hw (lv_sub hl [0, 1, 3] rfl) hf
set_option maxHeartbeats 4000000 in
set_option maxRecDepth 100000 in
theorem wX11_greatestPart_4 {p : Program} {l : Launch} {e : Env} {s : State} {m : MethodId} {args : Array Value} {below : List Frame} {meth : Method} {c : Code} {D : va_G} {A : Nat → Prop} {q : Nat → Nat} {cI cZ : ClassId} {Q : State → Prop} {r : Int} {τ : St} (C : Cx p s m args meth c D (TY cI cZ) cX11_greatestPart (some .int) 4 wsX11_greatestPart RX11) (hret : RtI p l e rmX11_greatestPart s m args below meth c D A cX11_greatestPart Q (wM q cI cZ τ) (zI r)) :
    ∀ (n : Nat) (σ : St) (x1 : Int) (x2 : Int) (x3 : Int) (H : Heap) (locs : List Loc) (ls : Array Slot), Wd D A s (wM q cI cZ σ) H locs → lv_has ls 4 [(0, .ref (q 0)), (1, .int (zI x1)), (2, .int (zI x2)), (3, .int (zI x3))] → pX11_greatestPart_4 n σ x1 x2 x3 = some (r, τ) → W p l e rmX11_greatestPart s m args below meth c H locs 0 0 Q (F0 m 4 ls []) := by
  obtain ⟨hx, hb, hr, hml, hown, hts, hlk, hK, hN⟩ := id C
  intro n
  induction n with
  | zero =>
    intro σ x1 x2 x3 H locs ls hw hl hf
    exact absurd (show (none : Option (Int × St)) = some (r, τ) from hf) (by simp)
  | succ n ih =>
    intro σ x1 x2 x3 H locs ls hw hl hf
    rw [pX11_greatestPart_4] at hf
    refine lv_iload_n hx hb dX11_greatestPart_4 rfl (lv_at hl 3 rfl) ?_
    refine lv_bipush (v := zI 31) hx hb dX11_greatestPart_5 (by decide +kernel) ?_
    obtain ⟨hg7, hf⟩ := gd_s hf
    refine zv_icmp_ge (tgt := 23) hx hb ⟨hg7, by decide⟩ dX11_greatestPart_7 (by decide) (fun (c7 : 31 ≤ x3) => ?_) (fun (c7 : ¬ (31 ≤ x3)) => ?_)
    · rw [if_pos c7] at hf
      refine lv_iconst (v := zI 0) hx hb dX11_greatestPart_23 rfl ?_
      refine lv_istore_n (lv' := [(3, .int (zI 0)), (0, .ref (q 0)), (1, .int (zI x1)), (2, .int (zI x2))]) hx hb dX11_greatestPart_24 rfl hl (by decide) rfl (fun ls hl => ?_)
      exact wX11_greatestPart_25 C hret FU σ x1 x2 0 H locs ls hw (lv_sub hl [1, 2, 3, 0] rfl) hf
    · rw [if_neg c7] at hf
      refine lv_aload_n hx hb dX11_greatestPart_10 rfl (lv_at hl 0 rfl) ?_
      refine va_get (D := D) (ci := 11) (v := .ref (q 21)) (C := RX11) (T := TX11) (N := 40) hx hb hts (fun _ h => List.mem_cons_of_mem _ (List.mem_append_right _ h)) hown hK hw.1 0 rfl rfl 34 (by decide) (hts (.fieldLink RX11 74 "EggThronesModel" "parts" "[I") (List.mem_of_getElem? (i := 1) rfl)) (fun _ h9 => h9) rfl dX11_greatestPart_11 ?_
      refine lv_iload_n hx hb dX11_greatestPart_14 rfl (lv_at hl 3 rfl) ?_
      refine lv_iconst (v := zI 0) hx hb dX11_greatestPart_15 rfl ?_
      obtain ⟨hi16, hf⟩ := gd_s hf
      refine zv_iast (D := D) hx hb hK hw.1 hw.2.1 hw.2.2 21 0 rfl rfl hi16 (by decide) dX11_greatestPart_16 (fun H locs hP hD hS => ?_)
      have hw : Wd D A s (wM q cI cZ (sA σ 20 (va_up (σ.2 20) (Int.toNat x3) 0))) H locs := wdaM_20 hP hD hS
      obtain ⟨σ16, e16, hf⟩ := nm_s hf
      replace hf := bt_s hf
      rw [← e16] at hw
      refine lv_iinc (v := zI (x3 + 1)) (lv' := [(3, .int (zI (x3 + 1))), (0, .ref (q 0)), (1, .int (zI x1)), (2, .int (zI x2))]) hx hb dX11_greatestPart_17 hl (k := 3) rfl (zI_add _ _) (by decide) rfl (fun ls hl => ?_)
      refine lv_goto (tgt := 4) hx hb dX11_greatestPart_20 (by decide) ?_
      exact ih σ16 x1 x2 (x3 + 1) H locs ls hw (lv_sub hl [1, 2, 3, 0] rfl) hf
set_option maxHeartbeats 4000000 in
set_option maxRecDepth 100000 in
theorem wX11_greatestPart_0 {p : Program} {l : Launch} {e : Env} {s : State} {m : MethodId} {args : Array Value} {below : List Frame} {meth : Method} {c : Code} {D : va_G} {A : Nat → Prop} {q : Nat → Nat} {cI cZ : ClassId} {Q : State → Prop} {r : Int} {τ : St} (C : Cx p s m args meth c D (TY cI cZ) cX11_greatestPart (some .int) 4 wsX11_greatestPart RX11) (hret : RtI p l e rmX11_greatestPart s m args below meth c D A cX11_greatestPart Q (wM q cI cZ τ) (zI r)) :
    ∀ (σ : St) (x1 : Int) (H : Heap) (locs : List Loc) (ls : Array Slot), Wd D A s (wM q cI cZ σ) H locs → lv_has ls 4 [(0, .ref (q 0)), (1, .int (zI x1))] → pX11_greatestPart_0 σ x1 = some (r, τ) → W p l e rmX11_greatestPart s m args below meth c H locs 0 0 Q (F0 m 0 ls []) := by
  obtain ⟨hx, hb, hr, hml, hown, hts, hlk, hK, hN⟩ := id C
  intro σ x1 H locs ls hw hl hf
  rw [pX11_greatestPart_0] at hf
  refine lv_iconst (v := zI 0) hx hb dX11_greatestPart_0 rfl ?_
  refine lv_istore_n (lv' := [(2, .int (zI 0)), (0, .ref (q 0)), (1, .int (zI x1))]) hx hb dX11_greatestPart_1 rfl hl (by decide) rfl (fun ls hl => ?_)
  refine lv_iconst (v := zI 0) hx hb dX11_greatestPart_2 rfl ?_
  refine lv_istore_n (lv' := [(3, .int (zI 0)), (2, .int (zI 0)), (0, .ref (q 0)), (1, .int (zI x1))]) hx hb dX11_greatestPart_3 rfl hl (by decide) rfl (fun ls hl => ?_)
  exact wX11_greatestPart_4 C hret FU σ x1 0 0 H locs ls hw (lv_sub hl [2, 3, 1, 0] rfl) hf
set_option maxHeartbeats 4000000 in
set_option maxRecDepth 100000 in
theorem tX11_greatestPart {l : Launch} {D : va_G} {A : Nat → Prop} {cI cZ : ClassId} {q : Nat → Nat} {σ : St} {x1 : Int} {r : Int} {τ : St} (hf : pX11_greatestPart σ x1 = some (r, τ)) : Met l yX11_greatestPart wsX11_greatestPart rmX11_greatestPart (va_Pc [.ref (q 0), .int (zI x1)] (CX D (TY cI cZ) A (wM q cI cZ σ))) (QI D (TY cI cZ) A (wM q cI cZ τ) (zI r)) 0 0 A := by
  refine opn (cc := cX11_greatestPart) (maxL := 4) (ret := (some .int)) (by decide) rfl (Nat.le_of_ble_eq_true rfl) (fun p e s m below meth c C ls hw hl => ?_)
  have hl : lv_has ls 4 [(0, .ref (q 0)), (1, .int (zI x1))] := hl
  rw [pX11_greatestPart] at hf
  exact wX11_greatestPart_0 C (rtI C) σ x1 _ _ ls hw (lv_sub hl [0, 1] rfl) hf
abbrev rmX11_testNext : Room := { frames := 2, cells := 0, slots := 0, locals := 46 }
set_option maxHeartbeats 4000000 in
set_option maxRecDepth 100000 in
theorem wX11_testNext_26 {p : Program} {l : Launch} {e : Env} {s : State} {m : MethodId} {args : Array Value} {below : List Frame} {meth : Method} {c : Code} {D : va_G} {A : Nat → Prop} {q : Nat → Nat} {cI cZ : ClassId} {Q : State → Prop} {r : Int} {τ : St} (C : Cx p s m args meth c D (TY cI cZ) cX11_testNext (some .int) 5 wsX11_testNext RX11) (hret : RtI p l e rmX11_testNext s m args below meth c D A cX11_testNext Q (wM q cI cZ τ) (zI r)) (k6 : St → Int → Int → Int → Option (Int × St)) (hk6 : ∀ (σ : St) (x1 : Int) (x2 : Int) (x3 : Int) (H : Heap) (locs : List Loc) (ls : Array Slot), Wd D A s (wM q cI cZ σ) H locs → lv_has ls 5 [(0, .ref (q 0)), (1, .int (zI x1)), (2, .int (zI x2)), (3, .int (zI x3))] → k6 σ x1 x2 x3 = some (r, τ) → W p l e rmX11_testNext s m args below meth c H locs 0 0 Q (F0 m 6 ls [])) :
    ∀ (σ : St) (x1 : Int) (x3 : Int) (t0 : Int) (t1 : Int) (H : Heap) (locs : List Loc) (ls : Array Slot), Wd D A s (wM q cI cZ σ) H locs → lv_has ls 5 [(0, .ref (q 0)), (1, .int (zI x1)), (3, .int (zI x3))] → pX11_testNext_26 k6 σ x1 x3 t0 t1 = some (r, τ) → W p l e rmX11_testNext s m args below meth c H locs 0 0 Q (F0 m 26 ls [.int (zI t1), .int (zI t0)]) := by
  obtain ⟨hx, hb, hr, hml, hown, hts, hlk, hK, hN⟩ := id C
  intro σ x1 x3 t0 t1 H locs ls hw hl hf
  rw [pX11_testNext_26] at hf
  refine zv_iadd hx hb dX11_testNext_26 ?_
  refine lv_istore_n (lv' := [(2, .int (zI (t0 + t1))), (0, .ref (q 0)), (1, .int (zI x1)), (3, .int (zI x3))]) hx hb dX11_testNext_27 rfl hl (by decide) rfl (fun ls hl => ?_)
  refine lv_iinc (v := zI (x3 + 1)) (lv' := [(3, .int (zI (x3 + 1))), (2, .int (zI (t0 + t1))), (0, .ref (q 0)), (1, .int (zI x1))]) hx hb dX11_testNext_28 hl (k := 3) rfl (zI_add _ _) (by decide) rfl (fun ls hl => ?_)
  refine lv_goto (tgt := 6) hx hb dX11_testNext_31 (by decide) ?_
  exact hk6 σ x1 (t0 + t1) (x3 + 1) H locs ls hw (lv_sub hl [2, 3, 1, 0] rfl) hf
set_option maxHeartbeats 4000000 in
set_option maxRecDepth 100000 in
theorem wX11_testNext_73 {p : Program} {l : Launch} {e : Env} {s : State} {m : MethodId} {args : Array Value} {below : List Frame} {meth : Method} {c : Code} {D : va_G} {A : Nat → Prop} {q : Nat → Nat} {cI cZ : ClassId} {Q : State → Prop} {r : Int} {τ : St} (C : Cx p s m args meth c D (TY cI cZ) cX11_testNext (some .int) 5 wsX11_testNext RX11) (hret : RtI p l e rmX11_testNext s m args below meth c D A cX11_testNext Q (wM q cI cZ τ) (zI r)) (k36 : St → Int → Int → Int → Option (Int × St)) (hk36 : ∀ (σ : St) (x1 : Int) (x2 : Int) (x3 : Int) (H : Heap) (locs : List Loc) (ls : Array Slot), Wd D A s (wM q cI cZ σ) H locs → lv_has ls 5 [(0, .ref (q 0)), (1, .int (zI x1)), (2, .int (zI x2)), (3, .int (zI x3))] → k36 σ x1 x2 x3 = some (r, τ) → W p l e rmX11_testNext s m args below meth c H locs 0 0 Q (F0 m 36 ls [])) :
    ∀ (σ : St) (x1 : Int) (x3 : Int) (t0 : Int) (H : Heap) (locs : List Loc) (ls : Array Slot), Wd D A s (wM q cI cZ σ) H locs → lv_has ls 5 [(0, .ref (q 0)), (1, .int (zI x1)), (3, .int (zI x3))] → pX11_testNext_73 k36 σ x1 x3 t0 = some (r, τ) → W p l e rmX11_testNext s m args below meth c H locs 0 0 Q (F0 m 73 ls [.int (zI t0)]) := by
  obtain ⟨hx, hb, hr, hml, hown, hts, hlk, hK, hN⟩ := id C
  intro σ x1 x3 t0 H locs ls hw hl hf
  rw [pX11_testNext_73] at hf
  refine lv_istore_n (lv' := [(2, .int (zI t0)), (0, .ref (q 0)), (1, .int (zI x1)), (3, .int (zI x3))]) hx hb dX11_testNext_73 rfl hl (by decide) rfl (fun ls hl => ?_)
  refine lv_iinc (v := zI (x3 + 1)) (lv' := [(3, .int (zI (x3 + 1))), (2, .int (zI t0)), (0, .ref (q 0)), (1, .int (zI x1))]) hx hb dX11_testNext_74 hl (k := 3) rfl (zI_add _ _) (by decide) rfl (fun ls hl => ?_)
  refine lv_goto (tgt := 36) hx hb dX11_testNext_77 (by decide) ?_
  exact hk36 σ x1 t0 (x3 + 1) H locs ls hw (lv_sub hl [2, 3, 1, 0] rfl) hf
set_option maxHeartbeats 4000000 in
set_option maxRecDepth 100000 in
theorem wX11_testNext_60 {p : Program} {l : Launch} {e : Env} {s : State} {m : MethodId} {args : Array Value} {below : List Frame} {meth : Method} {c : Code} {D : va_G} {A : Nat → Prop} {q : Nat → Nat} {cI cZ : ClassId} {Q : State → Prop} {r : Int} {τ : St} (C : Cx p s m args meth c D (TY cI cZ) cX11_testNext (some .int) 5 wsX11_testNext RX11) (hret : RtI p l e rmX11_testNext s m args below meth c D A cX11_testNext Q (wM q cI cZ τ) (zI r)) (k36 : St → Int → Int → Int → Option (Int × St)) (hk36 : ∀ (σ : St) (x1 : Int) (x2 : Int) (x3 : Int) (H : Heap) (locs : List Loc) (ls : Array Slot), Wd D A s (wM q cI cZ σ) H locs → lv_has ls 5 [(0, .ref (q 0)), (1, .int (zI x1)), (2, .int (zI x2)), (3, .int (zI x3))] → k36 σ x1 x2 x3 = some (r, τ) → W p l e rmX11_testNext s m args below meth c H locs 0 0 Q (F0 m 36 ls [])) :
    ∀ (σ : St) (x2 : Int) (x3 : Int) (x4 : Int) (t0 : Int) (H : Heap) (locs : List Loc) (ls : Array Slot), Wd D A s (wM q cI cZ σ) H locs → lv_has ls 5 [(0, .ref (q 0)), (2, .int (zI x2)), (3, .int (zI x3)), (4, .int (zI x4))] → pX11_testNext_60 k36 σ x2 x3 x4 t0 = some (r, τ) → W p l e rmX11_testNext s m args below meth c H locs 0 0 Q (F0 m 60 ls [.int (zI t0)]) := by
  obtain ⟨hx, hb, hr, hml, hown, hts, hlk, hK, hN⟩ := id C
  intro σ x2 x3 x4 t0 H locs ls hw hl hf
  rw [pX11_testNext_60] at hf
  refine lv_istore_n (lv' := [(1, .int (zI t0)), (0, .ref (q 0)), (2, .int (zI x2)), (3, .int (zI x3)), (4, .int (zI x4))]) hx hb dX11_testNext_60 rfl hl (by decide) rfl (fun ls hl => ?_)
  refine lv_iload hx hb dX11_testNext_61 (lv_at hl 4 rfl) ?_
  refine lv_iload_n hx hb dX11_testNext_63 rfl (lv_at hl 2 rfl) ?_
  obtain ⟨hg64, hf⟩ := gd_s hf
  refine zv_icmp_ge (tgt := 72) hx hb hg64 dX11_testNext_64 (by decide) (fun (c64 : x2 ≤ x4) => ?_) (fun (c64 : ¬ (x2 ≤ x4)) => ?_)
  · rw [if_pos c64] at hf
    refine lv_iload_n hx hb dX11_testNext_72 rfl (lv_at hl 2 rfl) ?_
    exact wX11_testNext_73 C hret _ hk36 σ t0 x3 x2 H locs ls hw (lv_sub hl [1, 0, 3] rfl) hf
  · rw [if_neg c64] at hf
    refine lv_iload hx hb dX11_testNext_67 (lv_at hl 4 rfl) ?_
    refine lv_goto (tgt := 73) hx hb dX11_testNext_69 (by decide) ?_
    exact wX11_testNext_73 C hret _ hk36 σ t0 x3 x4 H locs ls hw (lv_sub hl [1, 0, 3] rfl) hf
set_option maxHeartbeats 4000000 in
set_option maxRecDepth 100000 in
theorem wX11_testNext_36 {p : Program} {l : Launch} {e : Env} {s : State} {m : MethodId} {args : Array Value} {below : List Frame} {meth : Method} {c : Code} {D : va_G} {A : Nat → Prop} {q : Nat → Nat} {cI cZ : ClassId} {Q : State → Prop} {r : Int} {τ : St} (C : Cx p s m args meth c D (TY cI cZ) cX11_testNext (some .int) 5 wsX11_testNext RX11) (hret : RtI p l e rmX11_testNext s m args below meth c D A cX11_testNext Q (wM q cI cZ τ) (zI r)) :
    ∀ (n : Nat) (σ : St) (x1 : Int) (x2 : Int) (x3 : Int) (H : Heap) (locs : List Loc) (ls : Array Slot), Wd D A s (wM q cI cZ σ) H locs → lv_has ls 5 [(0, .ref (q 0)), (1, .int (zI x1)), (2, .int (zI x2)), (3, .int (zI x3))] → pX11_testNext_36 n σ x1 x2 x3 = some (r, τ) → W p l e rmX11_testNext s m args below meth c H locs 0 0 Q (F0 m 36 ls []) := by
  obtain ⟨hx, hb, hr, hml, hown, hts, hlk, hK, hN⟩ := id C
  intro n
  induction n with
  | zero =>
    intro σ x1 x2 x3 H locs ls hw hl hf
    exact absurd (show (none : Option (Int × St)) = some (r, τ) from hf) (by simp)
  | succ n ih =>
    intro σ x1 x2 x3 H locs ls hw hl hf
    rw [pX11_testNext_36] at hf
    refine lv_iload_n hx hb dX11_testNext_36 rfl (lv_at hl 3 rfl) ?_
    refine lv_bipush (v := zI 10) hx hb dX11_testNext_37 (by decide +kernel) ?_
    obtain ⟨hg39, hf⟩ := gd_s hf
    refine zv_icmp_ge (tgt := 80) hx hb ⟨hg39, by decide⟩ dX11_testNext_39 (by decide) (fun (c39 : 10 ≤ x3) => ?_) (fun (c39 : ¬ (10 ≤ x3)) => ?_)
    · rw [if_pos c39] at hf
      refine lv_iload_n hx hb dX11_testNext_80 rfl (lv_at hl 1 rfl) ?_
      cases hf
      exact hret H locs ls 81 dX11_testNext_81 hw
    · rw [if_neg c39] at hf
      refine lv_aload_n hx hb dX11_testNext_42 rfl (lv_at hl 0 rfl) ?_
      refine lv_iload_n hx hb dX11_testNext_43 rfl (lv_at hl 3 rfl) ?_
      obtain ⟨⟨r44, σ44⟩, h44, hf⟩ := bd_s hf
      have hf := hf2_s hf
      refine gVi (As := [.int (zI x3)]) (rest := []) C hw (tX11_greatestPart h44) (cwV 1 hts gX11_testNext_X11_greatestPart rfl rfl rfl (by decide +kernel) ⟨Nat.le_of_ble_eq_true rfl, Nat.le_of_ble_eq_true rfl⟩) 11 0 rfl rfl rfl hl.1 rfl (Nat.le_of_ble_eq_true rfl) dX11_testNext_44 (fun H locs hw => ?_)
      refine lv_istore (lv' := [(4, .int (zI r44)), (0, .ref (q 0)), (1, .int (zI x1)), (2, .int (zI x2)), (3, .int (zI x3))]) hx hb dX11_testNext_47 hl (by decide) rfl (fun ls hl => ?_)
      refine lv_iload hx hb dX11_testNext_49 (lv_at hl 0 rfl) ?_
      refine lv_iload_n hx hb dX11_testNext_51 rfl (lv_at hl 3 rfl) ?_
      obtain ⟨hg52, hf⟩ := gd_s hf
      refine zv_icmp_ge (tgt := 59) hx hb hg52 dX11_testNext_52 (by decide) (fun (c52 : x2 ≤ r44) => ?_) (fun (c52 : ¬ (x2 ≤ r44)) => ?_)
      · rw [if_pos c52] at hf
        refine lv_iload_n hx hb dX11_testNext_59 rfl (lv_at hl 2 rfl) ?_
        exact wX11_testNext_60 C hret _ ih σ44 x2 x3 r44 x1 H locs ls hw (lv_sub hl [1, 3, 4, 0] rfl) hf
      · rw [if_neg c52] at hf
        refine lv_iload_n hx hb dX11_testNext_55 rfl (lv_at hl 4 rfl) ?_
        refine lv_goto (tgt := 60) hx hb dX11_testNext_56 (by decide) ?_
        exact wX11_testNext_60 C hret _ ih σ44 x2 x3 r44 x3 H locs ls hw (lv_sub hl [1, 3, 4, 0] rfl) hf
set_option maxHeartbeats 4000000 in
set_option maxRecDepth 100000 in
theorem wX11_testNext_6 {p : Program} {l : Launch} {e : Env} {s : State} {m : MethodId} {args : Array Value} {below : List Frame} {meth : Method} {c : Code} {D : va_G} {A : Nat → Prop} {q : Nat → Nat} {cI cZ : ClassId} {Q : State → Prop} {r : Int} {τ : St} (C : Cx p s m args meth c D (TY cI cZ) cX11_testNext (some .int) 5 wsX11_testNext RX11) (hret : RtI p l e rmX11_testNext s m args below meth c D A cX11_testNext Q (wM q cI cZ τ) (zI r)) :
    ∀ (n : Nat) (σ : St) (x1 : Int) (x2 : Int) (x3 : Int) (H : Heap) (locs : List Loc) (ls : Array Slot), Wd D A s (wM q cI cZ σ) H locs → lv_has ls 5 [(0, .ref (q 0)), (1, .int (zI x1)), (2, .int (zI x2)), (3, .int (zI x3))] → pX11_testNext_6 n σ x1 x2 x3 = some (r, τ) → W p l e rmX11_testNext s m args below meth c H locs 0 0 Q (F0 m 6 ls []) := by
  obtain ⟨hx, hb, hr, hml, hown, hts, hlk, hK, hN⟩ := id C
  intro n
  induction n with
  | zero =>
    intro σ x1 x2 x3 H locs ls hw hl hf
    exact absurd (show (none : Option (Int × St)) = some (r, τ) from hf) (by simp)
  | succ n ih =>
    intro σ x1 x2 x3 H locs ls hw hl hf
    rw [pX11_testNext_6] at hf
    refine lv_iload_n hx hb dX11_testNext_6 rfl (lv_at hl 3 rfl) ?_
    refine lv_bipush (v := zI 31) hx hb dX11_testNext_7 (by decide +kernel) ?_
    obtain ⟨hg9, hf⟩ := gd_s hf
    refine zv_icmp_ge (tgt := 34) hx hb ⟨hg9, by decide⟩ dX11_testNext_9 (by decide) (fun (c9 : 31 ≤ x3) => ?_) (fun (c9 : ¬ (31 ≤ x3)) => ?_)
    · rw [if_pos c9] at hf
      refine lv_iconst (v := zI 1) hx hb dX11_testNext_34 rfl ?_
      refine lv_istore_n (lv' := [(3, .int (zI 1)), (0, .ref (q 0)), (1, .int (zI x1)), (2, .int (zI x2))]) hx hb dX11_testNext_35 rfl hl (by decide) rfl (fun ls hl => ?_)
      exact wX11_testNext_36 C hret FU σ x1 x2 1 H locs ls hw (lv_sub hl [1, 2, 3, 0] rfl) hf
    · rw [if_neg c9] at hf
      refine lv_iload_n hx hb dX11_testNext_12 rfl (lv_at hl 2 rfl) ?_
      refine lv_aload_n hx hb dX11_testNext_13 rfl (lv_at hl 0 rfl) ?_
      refine lv_iload_n hx hb dX11_testNext_14 rfl (lv_at hl 3 rfl) ?_
      obtain ⟨r15, h15, hf⟩ := bd_s hf
      replace hf := bt_s hf
      refine gVi (As := [.int (zI x3)]) (rest := [.int (zI x2)]) C hw (tX11_couldBe h15) (cwV 1 hts gX11_testNext_X11_couldBe rfl rfl rfl (by decide +kernel) ⟨Nat.le_of_ble_eq_true rfl, Nat.le_of_ble_eq_true rfl⟩) 11 0 rfl rfl rfl hl.1 rfl (Nat.le_of_ble_eq_true rfl) dX11_testNext_15 (fun H locs hw => ?_)
      obtain ⟨hg18, hf⟩ := gd_s hf
      refine zv_if_eq (tgt := 25) hx hb hg18 dX11_testNext_18 (by decide) (fun (c18 : r15 = 0) => ?_) (fun (c18 : ¬ (r15 = 0)) => ?_)
      · rw [if_pos c18] at hf
        refine lv_iconst (v := zI 0) hx hb dX11_testNext_25 rfl ?_
        exact wX11_testNext_26 C hret _ ih σ x1 x3 x2 0 H locs ls hw (lv_sub hl [0, 1, 3] rfl) hf
      · rw [if_neg c18] at hf
        refine lv_iconst (v := zI 1) hx hb dX11_testNext_21 rfl ?_
        refine lv_goto (tgt := 26) hx hb dX11_testNext_22 (by decide) ?_
        exact wX11_testNext_26 C hret _ ih σ x1 x3 x2 1 H locs ls hw (lv_sub hl [0, 1, 3] rfl) hf
set_option maxHeartbeats 4000000 in
set_option maxRecDepth 100000 in
theorem wX11_testNext_0 {p : Program} {l : Launch} {e : Env} {s : State} {m : MethodId} {args : Array Value} {below : List Frame} {meth : Method} {c : Code} {D : va_G} {A : Nat → Prop} {q : Nat → Nat} {cI cZ : ClassId} {Q : State → Prop} {r : Int} {τ : St} (C : Cx p s m args meth c D (TY cI cZ) cX11_testNext (some .int) 5 wsX11_testNext RX11) (hret : RtI p l e rmX11_testNext s m args below meth c D A cX11_testNext Q (wM q cI cZ τ) (zI r)) :
    ∀ (σ : St) (H : Heap) (locs : List Loc) (ls : Array Slot), Wd D A s (wM q cI cZ σ) H locs → lv_has ls 5 [(0, .ref (q 0))] → pX11_testNext_0 σ = some (r, τ) → W p l e rmX11_testNext s m args below meth c H locs 0 0 Q (F0 m 0 ls []) := by
  obtain ⟨hx, hb, hr, hml, hown, hts, hlk, hK, hN⟩ := id C
  intro σ H locs ls hw hl hf
  rw [pX11_testNext_0] at hf
  refine lv_iconst (v := zI (-1)) hx hb dX11_testNext_0 rfl ?_
  refine lv_istore_n (lv' := [(1, .int (zI (-1))), (0, .ref (q 0))]) hx hb dX11_testNext_1 rfl hl (by decide) rfl (fun ls hl => ?_)
  refine lv_iconst (v := zI 0) hx hb dX11_testNext_2 rfl ?_
  refine lv_istore_n (lv' := [(2, .int (zI 0)), (1, .int (zI (-1))), (0, .ref (q 0))]) hx hb dX11_testNext_3 rfl hl (by decide) rfl (fun ls hl => ?_)
  refine lv_iconst (v := zI 0) hx hb dX11_testNext_4 rfl ?_
  refine lv_istore_n (lv' := [(3, .int (zI 0)), (2, .int (zI 0)), (1, .int (zI (-1))), (0, .ref (q 0))]) hx hb dX11_testNext_5 rfl hl (by decide) rfl (fun ls hl => ?_)
  exact wX11_testNext_6 C hret FU σ (-1) 0 0 H locs ls hw (lv_sub hl [3, 2, 1, 0] rfl) hf
set_option maxHeartbeats 4000000 in
set_option maxRecDepth 100000 in
theorem tX11_testNext {l : Launch} {D : va_G} {A : Nat → Prop} {cI cZ : ClassId} {q : Nat → Nat} {σ : St} {r : Int} {τ : St} (hf : pX11_testNext σ = some (r, τ)) : Met l yX11_testNext wsX11_testNext rmX11_testNext (va_Pc [.ref (q 0)] (CX D (TY cI cZ) A (wM q cI cZ σ))) (QI D (TY cI cZ) A (wM q cI cZ τ) (zI r)) 0 0 A := by
  refine opn (cc := cX11_testNext) (maxL := 5) (ret := (some .int)) (by decide) rfl (Nat.le_of_ble_eq_true rfl) (fun p e s m below meth c C ls hw hl => ?_)
  have hl : lv_has ls 5 [(0, .ref (q 0))] := hl
  rw [pX11_testNext] at hf
  exact wX11_testNext_0 C (rtI C) σ _ _ ls hw (lv_sub hl [0] rfl) hf
abbrev rmX1_add : Room := { frames := 0, cells := 0, slots := 0, locals := 0 }
set_option maxHeartbeats 4000000 in
set_option maxRecDepth 100000 in
theorem wX1_add_0 {p : Program} {l : Launch} {e : Env} {s : State} {m : MethodId} {args : Array Value} {below : List Frame} {meth : Method} {c : Code} {D : va_G} {A : Nat → Prop} {q : Nat → Nat} {cI cZ : ClassId} {Q : State → Prop} {r : Int} {τ : St} (C : Cx p s m args meth c D (TY cI cZ) cX1_add (some .boolean) 3 wsX1_add RX1) (hret : RtZ p l e rmX1_add s m args below meth c D A cX1_add Q (wE q cI cZ τ) (zI r)) :
    ∀ (σ : St) (x1 : Int) (x2 : Int) (H : Heap) (locs : List Loc) (ls : Array Slot), Wd D A s (wE q cI cZ σ) H locs → lv_has ls 3 [(0, .ref (q 27)), (1, .int (zI x1)), (2, .int (zI x2))] → pX1_add_0 σ x1 x2 = some (r, τ) → W p l e rmX1_add s m args below meth c H locs 0 0 Q (F0 m 0 ls []) := by
  obtain ⟨hx, hb, hr, hml, hown, hts, hlk, hK, hN⟩ := id C
  intro σ x1 x2 H locs ls hw hl hf
  rw [pX1_add_0] at hf
  refine lv_aload_n hx hb dX1_add_0 rfl (lv_at hl 0 rfl) ?_
  refine va_get (D := D) (ci := 1) (v := .int (zI (σ.1 25))) (C := RX1) (T := TX1) (N := 3) hx hb hts (fun _ h => List.mem_cons_of_mem _ (List.mem_append_right _ h)) hown hK hw.1 27 rfl rfl 2 (by decide) (hts (.fieldLink RX1 18 "EggThrones$Book" "count" "I") (List.mem_of_getElem? (i := 1) rfl)) (fun _ h9 => h9) rfl dX1_add_1 ?_
  obtain ⟨hg4, hf⟩ := gd_s hf
  refine zv_if_lt (tgt := 16) hx hb hg4 dX1_add_4 (by decide) (fun (c4 : (σ.1 25) < 0) => ?_) (fun (c4 : ¬ ((σ.1 25) < 0)) => ?_)
  · rw [if_pos c4] at hf
    refine lv_iconst (v := zI 0) hx hb dX1_add_16 rfl ?_
    cases hf
    exact hret H locs ls 17 dX1_add_17 (by decide +kernel) hw
  · rw [if_neg c4] at hf
    refine lv_aload_n hx hb dX1_add_7 rfl (lv_at hl 0 rfl) ?_
    refine va_get (D := D) (ci := 1) (v := .int (zI (σ.1 25))) (C := RX1) (T := TX1) (N := 3) hx hb hts (fun _ h => List.mem_cons_of_mem _ (List.mem_append_right _ h)) hown hK hw.1 27 rfl rfl 2 (by decide) (hts (.fieldLink RX1 18 "EggThrones$Book" "count" "I") (List.mem_of_getElem? (i := 1) rfl)) (fun _ h9 => h9) rfl dX1_add_8 ?_
    refine lv_bipush (v := zI 15) hx hb dX1_add_11 (by decide +kernel) ?_
    obtain ⟨hg13, hf⟩ := gd_s hf
    refine zv_icmp_lt (tgt := 18) hx hb ⟨hg13, by decide⟩ dX1_add_13 (by decide) (fun (c13 : (σ.1 25) < 15) => ?_) (fun (c13 : ¬ ((σ.1 25) < 15)) => ?_)
    · rw [if_pos c13] at hf
      refine lv_aload_n hx hb dX1_add_18 rfl (lv_at hl 0 rfl) ?_
      refine va_get (D := D) (ci := 1) (v := .ref (q 28)) (C := RX1) (T := TX1) (N := 3) hx hb hts (fun _ h => List.mem_cons_of_mem _ (List.mem_append_right _ h)) hown hK hw.1 27 rfl rfl 0 (by decide) (hts (.fieldLink RX1 9 "EggThrones$Book" "eggs" "[I") (List.mem_of_getElem? (i := 2) rfl)) (fun _ h9 => h9) rfl dX1_add_19 ?_
      refine lv_aload_n hx hb dX1_add_22 rfl (lv_at hl 0 rfl) ?_
      refine va_get (D := D) (ci := 1) (v := .int (zI (σ.1 25))) (C := RX1) (T := TX1) (N := 3) hx hb hts (fun _ h => List.mem_cons_of_mem _ (List.mem_append_right _ h)) hown hK hw.1 27 rfl rfl 2 (by decide) (hts (.fieldLink RX1 18 "EggThrones$Book" "count" "I") (List.mem_of_getElem? (i := 1) rfl)) (fun _ h9 => h9) rfl dX1_add_23 ?_
      refine lv_iload_n hx hb dX1_add_26 rfl (lv_at hl 1 rfl) ?_
      obtain ⟨hi27, hf⟩ := gd_s hf
      refine zv_iast (D := D) hx hb hK hw.1 hw.2.1 hw.2.2 28 0 rfl rfl hi27 (by decide) dX1_add_27 (fun H locs hP hD hS => ?_)
      have hw : Wd D A s (wE q cI cZ (sA σ 19 (va_up (σ.2 19) (Int.toNat (σ.1 25)) x1))) H locs := wdaE_19 hP hD hS
      obtain ⟨σ27, e27, hf⟩ := nm_s hf
      replace hf := bt_s hf
      rw [← e27] at hw
      refine lv_aload_n hx hb dX1_add_28 rfl (lv_at hl 0 rfl) ?_
      refine va_get (D := D) (ci := 1) (v := .ref (q 29)) (C := RX1) (T := TX1) (N := 3) hx hb hts (fun _ h => List.mem_cons_of_mem _ (List.mem_append_right _ h)) hown hK hw.1 27 rfl rfl 1 (by decide) (hts (.fieldLink RX1 15 "EggThrones$Book" "states" "[I") (List.mem_of_getElem? (i := 3) rfl)) (fun _ h9 => h9) rfl dX1_add_29 ?_
      refine lv_aload_n hx hb dX1_add_32 rfl (lv_at hl 0 rfl) ?_
      refine va_get (D := D) (ci := 1) (v := .int (zI (σ27.1 25))) (C := RX1) (T := TX1) (N := 3) hx hb hts (fun _ h => List.mem_cons_of_mem _ (List.mem_append_right _ h)) hown hK hw.1 27 rfl rfl 2 (by decide) (hts (.fieldLink RX1 18 "EggThrones$Book" "count" "I") (List.mem_of_getElem? (i := 1) rfl)) (fun _ h9 => h9) rfl dX1_add_33 ?_
      refine lv_iload_n hx hb dX1_add_36 rfl (lv_at hl 2 rfl) ?_
      obtain ⟨hi37, hf⟩ := gd_s hf
      refine zv_iast (D := D) hx hb hK hw.1 hw.2.1 hw.2.2 29 0 rfl rfl hi37 (by decide) dX1_add_37 (fun H locs hP hD hS => ?_)
      have hw : Wd D A s (wE q cI cZ (sA σ27 20 (va_up (σ27.2 20) (Int.toNat (σ27.1 25)) x2))) H locs := wdaE_20 hP hD hS
      obtain ⟨σ37, e37, hf⟩ := nm_s hf
      replace hf := bt_s hf
      rw [← e37] at hw
      refine lv_aload_n hx hb dX1_add_38 rfl (lv_at hl 0 rfl) ?_
      refine lv_dup hx hb dX1_add_39 rfl ?_
      refine va_get (D := D) (ci := 1) (v := .int (zI (σ37.1 25))) (C := RX1) (T := TX1) (N := 3) hx hb hts (fun _ h => List.mem_cons_of_mem _ (List.mem_append_right _ h)) hown hK hw.1 27 rfl rfl 2 (by decide) (hts (.fieldLink RX1 18 "EggThrones$Book" "count" "I") (List.mem_of_getElem? (i := 1) rfl)) (fun _ h9 => h9) rfl dX1_add_40 ?_
      refine lv_iconst (v := zI 1) hx hb dX1_add_43 rfl ?_
      refine zv_iadd hx hb dX1_add_44 ?_
      refine va_put (D := D) (ci := 1) (v := .int (zI ((σ37.1 25) + 1))) (ty := .int) (C := RX1) (T := TX1) (N := 3) hx hb hts (fun _ h => List.mem_cons_of_mem _ (List.mem_append_right _ h)) tyX1 tyX1_ok nmX1 hown hK hw.1 hw.2.1 hw.2.2 27 rfl rfl 2 (by decide) (hts (.fieldLink RX1 18 "EggThrones$Book" "count" "I") (List.mem_of_getElem? (i := 1) rfl)) (fun _ h9 => h9) rfl (by decide +kernel) rfl rfl (Nat.le_of_ble_eq_true rfl) dX1_add_45 (fun H locs hP hD hS => ?_)
      have hw : Wd D A s (wE q cI cZ (sI σ37 25 ((σ37.1 25) + 1))) H locs := wdiE_25 hP hD hS
      obtain ⟨σ45, e45, hf⟩ := nm_s hf
      replace hf := bt_s hf
      rw [← e45] at hw
      refine lv_iconst (v := zI 1) hx hb dX1_add_48 rfl ?_
      cases hf
      exact hret H locs ls 49 dX1_add_49 (by decide +kernel) hw
    · rw [if_neg c13] at hf
      refine lv_iconst (v := zI 0) hx hb dX1_add_16 rfl ?_
      cases hf
      exact hret H locs ls 17 dX1_add_17 (by decide +kernel) hw
set_option maxHeartbeats 4000000 in
set_option maxRecDepth 100000 in
theorem tX1_add {l : Launch} {D : va_G} {A : Nat → Prop} {cI cZ : ClassId} {q : Nat → Nat} {σ : St} {x1 : Int} {x2 : Int} {r : Int} {τ : St} (hf : pX1_add σ x1 x2 = some (r, τ)) : Met l yX1_add wsX1_add rmX1_add (va_Pc [.ref (q 27), .int (zI x1), .int (zI x2)] (CX D (TY cI cZ) A (wE q cI cZ σ))) (QI D (TY cI cZ) A (wE q cI cZ τ) (zI r)) 0 0 A := by
  refine opn (cc := cX1_add) (maxL := 3) (ret := (some .boolean)) (by decide) rfl (Nat.le_of_ble_eq_true rfl) (fun p e s m below meth c C ls hw hl => ?_)
  have hl : lv_has ls 3 [(0, .ref (q 27)), (1, .int (zI x1)), (2, .int (zI x2))] := hl
  rw [pX1_add] at hf
  exact wX1_add_0 C (rtZ C) σ x1 x2 _ _ ls hw (lv_sub hl [0, 1, 2] rfl) hf
abbrev rmX10_write : Room := { frames := 1, cells := 0, slots := 0, locals := 22 }
set_option maxHeartbeats 4000000 in
set_option maxRecDepth 100000 in
theorem wX10_write_0 {p : Program} {l : Launch} {e : Env} {s : State} {m : MethodId} {args : Array Value} {below : List Frame} {meth : Method} {c : Code} {D : va_G} {A : Nat → Prop} {q : Nat → Nat} {cI cZ : ClassId} {Q : State → Prop} {r : Int} {τ : St} (C : Cx p s m args meth c D (TY cI cZ) cX10_write (some .int) 3 wsX10_write RX10) (hret : RtI p l e rmX10_write s m args below meth c D A cX10_write Q (wE q cI cZ τ) (zI r)) :
    ∀ (σ : St) (x1 : Int) (x2 : Int) (H : Heap) (locs : List Loc) (ls : Array Slot), Wd D A s (wE q cI cZ σ) H locs → lv_has ls 3 [(0, .ref (q 0)), (1, .int (zI x1)), (2, .int (zI x2))] → pX10_write_0 σ x1 x2 = some (r, τ) → W p l e rmX10_write s m args below meth c H locs 0 0 Q (F0 m 0 ls []) := by
  obtain ⟨hx, hb, hr, hml, hown, hts, hlk, hK, hN⟩ := id C
  intro σ x1 x2 H locs ls hw hl hf
  rw [pX10_write_0] at hf
  refine lv_aload_n hx hb dX10_write_0 rfl (lv_at hl 0 rfl) ?_
  refine va_get (D := D) (ci := 10) (v := .ref (q 1)) (C := RX10) (T := TX10) (N := 13) hx hb hts (fun _ h => List.mem_cons_of_mem _ (List.mem_append_left _ (List.mem_append_left _ (List.mem_append_right _ h)))) hown hK hw.1 0 rfl rfl 1 (by decide) (hts (.fieldLink RX10 19 "EggThrones" "laid" "LEggThrones$Table;") (List.mem_of_getElem? (i := 1) rfl)) (fun _ h9 => h9) rfl dX10_write_1 ?_
  refine lv_iload_n hx hb dX10_write_4 rfl (lv_at hl 1 rfl) ?_
  obtain ⟨r5, h5, hf⟩ := bd_s hf
  replace hf := bt_s hf
  refine gVi (As := [.int (zI x1)]) (rest := []) C hw (tX8_hasEgg_c1 h5) (cwV 1 hts gX10_write_X8_hasEgg rfl rfl rfl (by decide +kernel) ⟨Nat.le_of_ble_eq_true rfl, Nat.le_of_ble_eq_true rfl⟩) 8 1 rfl rfl rfl hl.1 rfl (Nat.le_of_ble_eq_true rfl) dX10_write_5 (fun H locs hw => ?_)
  obtain ⟨hg8, hf⟩ := gd_s hf
  refine zv_if_ne (tgt := 14) hx hb hg8 dX10_write_8 (by decide) (fun (c8 : ¬ (r5 = 0)) => ?_) (fun (c8 : r5 = 0) => ?_)
  · rw [if_neg c8] at hf
    refine lv_iload_n hx hb dX10_write_14 rfl (lv_at hl 2 rfl) ?_
    refine lv_iconst (v := zI 0) hx hb dX10_write_15 rfl ?_
    refine lv_iconst (v := zI 5) hx hb dX10_write_16 rfl ?_
    obtain ⟨r17, h17, hf⟩ := bd_s hf
    replace hf := bt_s hf
    refine gSi (As := [.int (zI x2), .int (zI 0), .int (zI 5)]) (rest := []) C hw (tX10_isWithin h17) (va_cwS 3 hts gX10_write_X10_isWithin rfl rfl rfl (by decide +kernel) ⟨Nat.le_of_ble_eq_true rfl, Nat.le_of_ble_eq_true rfl⟩) rfl hl.1 rfl (Nat.le_of_ble_eq_true rfl) dX10_write_17 (fun H locs hw => ?_)
    obtain ⟨hg20, hf⟩ := gd_s hf
    refine zv_if_ne (tgt := 26) hx hb hg20 dX10_write_20 (by decide) (fun (c20 : ¬ (r17 = 0)) => ?_) (fun (c20 : r17 = 0) => ?_)
    · rw [if_neg c20] at hf
      refine lv_aload_n hx hb dX10_write_26 rfl (lv_at hl 0 rfl) ?_
      refine va_get (D := D) (ci := 10) (v := .ref (q 27)) (C := RX10) (T := TX10) (N := 13) hx hb hts (fun _ h => List.mem_cons_of_mem _ (List.mem_append_left _ (List.mem_append_left _ (List.mem_append_right _ h)))) hown hK hw.1 0 rfl rfl 7 (by decide) (hts (.fieldLink RX10 59 "EggThrones" "book" "LEggThrones$Book;") (List.mem_of_getElem? (i := 4) rfl)) (fun _ h9 => h9) rfl dX10_write_27 ?_
      refine lv_iload_n hx hb dX10_write_30 rfl (lv_at hl 1 rfl) ?_
      refine lv_iload_n hx hb dX10_write_31 rfl (lv_at hl 2 rfl) ?_
      obtain ⟨⟨r32, σ32⟩, h32, hf⟩ := bd_s hf
      have hf := hf2_s hf
      refine gVi (As := [.int (zI x1), .int (zI x2)]) (rest := []) C hw (tX1_add h32) (cwV 2 hts gX10_write_X1_add rfl rfl rfl (by decide +kernel) ⟨Nat.le_of_ble_eq_true rfl, Nat.le_of_ble_eq_true rfl⟩) 1 27 rfl rfl rfl hl.1 rfl (Nat.le_of_ble_eq_true rfl) dX10_write_32 (fun H locs hw => ?_)
      obtain ⟨hg35, hf⟩ := gd_s hf
      refine zv_if_eq (tgt := 48) hx hb hg35 dX10_write_35 (by decide) (fun (c35 : r32 = 0) => ?_) (fun (c35 : ¬ (r32 = 0)) => ?_)
      · rw [if_pos c35] at hf
        refine zv_ldc hx hb (-1000000004) (by decide +kernel) hown (hts (.constant RX10 104 (-1000000004)) (List.mem_of_getElem? (i := 5) rfl)) dX10_write_48 ?_
        cases hf
        exact hret H locs ls 50 dX10_write_50 hw
      · rw [if_neg c35] at hf
        refine lv_aload_n hx hb dX10_write_38 rfl (lv_at hl 0 rfl) ?_
        refine va_get (D := D) (ci := 10) (v := .ref (q 27)) (C := RX10) (T := TX10) (N := 13) hx hb hts (fun _ h => List.mem_cons_of_mem _ (List.mem_append_left _ (List.mem_append_left _ (List.mem_append_right _ h)))) hown hK hw.1 0 rfl rfl 7 (by decide) (hts (.fieldLink RX10 59 "EggThrones" "book" "LEggThrones$Book;") (List.mem_of_getElem? (i := 4) rfl)) (fun _ h9 => h9) rfl dX10_write_39 ?_
        refine va_getN (D := D) (ci := 1) (v := .int (zI (σ32.1 25))) (C := RX1) (T := TX1) (N := 3) hx hb hts (fun _ h => List.mem_cons_of_mem _ (List.mem_append_left _ (List.mem_append_right _ h))) hown hK hw.1 27 rfl rfl 2 (by decide) (va_Nw.use rfl (hN (.fieldLinkNest "EggThrones" 170 "EggThrones$Book" "count" "I" "EggThrones") (by decide +kernel))) (fun _ h9 => h9) rfl dX10_write_42 ?_
        refine lv_goto (tgt := 50) hx hb dX10_write_45 (by decide) ?_
        cases hf
        exact hret H locs ls 50 dX10_write_50 hw
    · rw [if_pos c20] at hf
      refine zv_ldc hx hb (-1000000002) (by decide +kernel) hown (hts (.constant RX10 95 (-1000000002)) (List.mem_of_getElem? (i := 3) rfl)) dX10_write_23 ?_
      cases hf
      exact hret H locs ls 25 dX10_write_25 hw
  · rw [if_pos c8] at hf
    refine zv_ldc hx hb (-1000000001) (by decide +kernel) hown (hts (.constant RX10 175 (-1000000001)) (List.mem_of_getElem? (i := 2) rfl)) dX10_write_11 ?_
    cases hf
    exact hret H locs ls 13 dX10_write_13 hw
set_option maxHeartbeats 4000000 in
set_option maxRecDepth 100000 in
theorem tX10_write {l : Launch} {D : va_G} {A : Nat → Prop} {cI cZ : ClassId} {q : Nat → Nat} {σ : St} {x1 : Int} {x2 : Int} {r : Int} {τ : St} (hf : pX10_write σ x1 x2 = some (r, τ)) : Met l yX10_write wsX10_write rmX10_write (va_Pc [.ref (q 0), .int (zI x1), .int (zI x2)] (CX D (TY cI cZ) A (wE q cI cZ σ))) (QI D (TY cI cZ) A (wE q cI cZ τ) (zI r)) 0 0 A := by
  refine opn (cc := cX10_write) (maxL := 3) (ret := (some .int)) (by decide) rfl (Nat.le_of_ble_eq_true rfl) (fun p e s m below meth c C ls hw hl => ?_)
  have hl : lv_has ls 3 [(0, .ref (q 0)), (1, .int (zI x1)), (2, .int (zI x2))] := hl
  rw [pX10_write] at hf
  exact wX10_write_0 C (rtI C) σ x1 x2 _ _ ls hw (lv_sub hl [0, 1, 2] rfl) hf
