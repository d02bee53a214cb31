abbrev rmX11_takeRead : Room := { frames := 0, cells := 0, slots := 0, locals := 0 }
set_option maxHeartbeats 4000000 in
set_option maxRecDepth 100000 in
theorem wX11_takeRead_117 {p : Program} {l : Launch} {e : Env} {s : State} {m : MethodId} {args : Array Value} {below : List Frame} {meth : Method} {c : Code} {D : va_G} {A : Nat → Prop} {q : Nat → Nat} {cI cZ : ClassId} {Q : State → Prop} {τ : St} (C : Cx p s m args meth c D (TY cI cZ) cX11_takeRead none 2 wsX11_takeRead RX11) (hret : RtV p l e rmX11_takeRead s m args below meth c D A cX11_takeRead Q (wM q cI cZ τ)) :
    ∀ (n : Nat) (σ : St) (x1 : Int) (H : Heap) (locs : List Loc) (ls : Array Slot), Wd D A s (wM q cI cZ σ) H locs → lv_has ls 2 [(0, .ref (q 0)), (1, .int (zI x1))] → pX11_takeRead_117 n σ x1 = some τ → W p l e rmX11_takeRead s m args below meth c H locs 0 0 Q (F0 m 117 ls []) := by
  obtain ⟨hx, hb, hr, hml, hown, hts, hlk, hK, hN⟩ := id C
  intro n
  induction n with
  | zero =>
    intro σ x1 H locs ls hw hl hf
    exact absurd (show (none : Option (St)) = some τ from hf) (by simp)
  | succ n ih =>
    intro σ x1 H locs ls hw hl hf
    rw [pX11_takeRead_117] at hf
    refine lv_iload_n hx hb dX11_takeRead_117 rfl (lv_at hl 1 rfl) ?_
    refine lv_iconst (v := zI 5) hx hb dX11_takeRead_118 rfl ?_
    obtain ⟨hg119, hf⟩ := gd_s hf
    refine zv_icmp_ge (tgt := 152) hx hb ⟨hg119, by decide⟩ dX11_takeRead_119 (by decide) (fun (c119 : 5 ≤ x1) => ?_) (fun (c119 : ¬ (5 ≤ x1)) => ?_)
    · rw [if_pos c119] at hf
      cases hf
      exact hret H locs ls 152 dX11_takeRead_152 hw
    · rw [if_neg c119] at hf
      refine lv_aload_n hx hb dX11_takeRead_122 rfl (lv_at hl 0 rfl) ?_
      refine va_get (D := D) (ci := 11) (v := .ref (q 3)) (C := RX11) (T := TX11) (N := 40) hx hb hts (fun _ h => List.mem_cons_of_mem _ (List.mem_append_right _ h)) hown hK hw.1 0 rfl rfl 6 (by decide) (hts (.fieldLink RX11 16 "EggThronesModel" "likesLeast" "[I") (List.mem_of_getElem? (i := 14) rfl)) (fun _ h9 => h9) rfl dX11_takeRead_123 ?_
      refine lv_iload_n hx hb dX11_takeRead_126 rfl (lv_at hl 1 rfl) ?_
      refine lv_aload_n hx hb dX11_takeRead_127 rfl (lv_at hl 0 rfl) ?_
      refine va_get (D := D) (ci := 11) (v := .ref (q 11)) (C := RX11) (T := TX11) (N := 40) hx hb hts (fun _ h => List.mem_cons_of_mem _ (List.mem_append_right _ h)) hown hK hw.1 0 rfl rfl 22 (by decide) (hts (.fieldLink RX11 44 "EggThronesModel" "readLeast" "[I") (List.mem_of_getElem? (i := 15) rfl)) (fun _ h9 => h9) rfl dX11_takeRead_128 ?_
      refine lv_iload_n hx hb dX11_takeRead_131 rfl (lv_at hl 1 rfl) ?_
      obtain ⟨hi132, hf⟩ := gd_s hf
      refine zv_iald (D := D) hx hb hK hw.1 11 0 rfl rfl hi132 (by decide) dX11_takeRead_132 ?_
      obtain ⟨hi133, hf⟩ := gd_s hf
      refine zv_iast (D := D) hx hb hK hw.1 hw.2.1 hw.2.2 3 0 rfl rfl hi133 (by decide) dX11_takeRead_133 (fun H locs hP hD hS => ?_)
      have hw : Wd D A s (wM q cI cZ (sA σ 2 (va_up (σ.2 2) (Int.toNat x1) (σ.2 10 (Int.toNat x1))))) H locs := wdaM_2 hP hD hS
      obtain ⟨σ133, e133, hf⟩ := nm_s hf
      replace hf := bt_s hf
      rw [← e133] at hw
      refine lv_aload_n hx hb dX11_takeRead_134 rfl (lv_at hl 0 rfl) ?_
      refine va_get (D := D) (ci := 11) (v := .ref (q 4)) (C := RX11) (T := TX11) (N := 40) hx hb hts (fun _ h => List.mem_cons_of_mem _ (List.mem_append_right _ h)) hown hK hw.1 0 rfl rfl 7 (by decide) (hts (.fieldLink RX11 19 "EggThronesModel" "likesMost" "[I") (List.mem_of_getElem? (i := 16) rfl)) (fun _ h9 => h9) rfl dX11_takeRead_135 ?_
      refine lv_iload_n hx hb dX11_takeRead_138 rfl (lv_at hl 1 rfl) ?_
      refine lv_aload_n hx hb dX11_takeRead_139 rfl (lv_at hl 0 rfl) ?_
      refine va_get (D := D) (ci := 11) (v := .ref (q 12)) (C := RX11) (T := TX11) (N := 40) hx hb hts (fun _ h => List.mem_cons_of_mem _ (List.mem_append_right _ h)) hown hK hw.1 0 rfl rfl 23 (by decide) (hts (.fieldLink RX11 47 "EggThronesModel" "readMost" "[I") (List.mem_of_getElem? (i := 17) rfl)) (fun _ h9 => h9) rfl dX11_takeRead_140 ?_
      refine lv_iload_n hx hb dX11_takeRead_143 rfl (lv_at hl 1 rfl) ?_
      obtain ⟨hi144, hf⟩ := gd_s hf
      refine zv_iald (D := D) hx hb hK hw.1 12 0 rfl rfl hi144 (by decide) dX11_takeRead_144 ?_
      obtain ⟨hi145, hf⟩ := gd_s hf
      refine zv_iast (D := D) hx hb hK hw.1 hw.2.1 hw.2.2 4 0 rfl rfl hi145 (by decide) dX11_takeRead_145 (fun H locs hP hD hS => ?_)
      have hw : Wd D A s (wM q cI cZ (sA σ133 3 (va_up (σ133.2 3) (Int.toNat x1) (σ133.2 11 (Int.toNat x1))))) H locs := wdaM_3 hP hD hS
      obtain ⟨σ145, e145, hf⟩ := nm_s hf
      replace hf := bt_s hf
      rw [← e145] at hw
      refine lv_iinc (v := zI (x1 + 1)) (lv' := [(1, .int (zI (x1 + 1))), (0, .ref (q 0))]) hx hb dX11_takeRead_146 hl (k := 1) rfl (zI_add _ _) (by decide) rfl (fun ls hl => ?_)
      refine lv_goto (tgt := 117) hx hb dX11_takeRead_149 (by decide) ?_
      exact ih σ145 (x1 + 1) H locs ls hw (lv_sub hl [1, 0] rfl) hf
set_option maxHeartbeats 4000000 in
set_option maxRecDepth 100000 in
theorem wX11_takeRead_72 {p : Program} {l : Launch} {e : Env} {s : State} {m : MethodId} {args : Array Value} {below : List Frame} {meth : Method} {c : Code} {D : va_G} {A : Nat → Prop} {q : Nat → Nat} {cI cZ : ClassId} {Q : State → Prop} {τ : St} (C : Cx p s m args meth c D (TY cI cZ) cX11_takeRead none 2 wsX11_takeRead RX11) (hret : RtV p l e rmX11_takeRead s m args below meth c D A cX11_takeRead Q (wM q cI cZ τ)) :
    ∀ (n : Nat) (σ : St) (x1 : Int) (H : Heap) (locs : List Loc) (ls : Array Slot), Wd D A s (wM q cI cZ σ) H locs → lv_has ls 2 [(0, .ref (q 0)), (1, .int (zI x1))] → pX11_takeRead_72 n σ x1 = some τ → W p l e rmX11_takeRead s m args below meth c H locs 0 0 Q (F0 m 72 ls []) := by
  obtain ⟨hx, hb, hr, hml, hown, hts, hlk, hK, hN⟩ := id C
  intro n
  induction n with
  | zero =>
    intro σ x1 H locs ls hw hl hf
    exact absurd (show (none : Option (St)) = some τ from hf) (by simp)
  | succ n ih =>
    intro σ x1 H locs ls hw hl hf
    rw [pX11_takeRead_72] at hf
    refine lv_iload_n hx hb dX11_takeRead_72 rfl (lv_at hl 1 rfl) ?_
    refine lv_bipush (v := zI 7) hx hb dX11_takeRead_73 (by decide +kernel) ?_
    obtain ⟨hg75, hf⟩ := gd_s hf
    refine zv_icmp_ge (tgt := 115) hx hb ⟨hg75, by decide⟩ dX11_takeRead_75 (by decide) (fun (c75 : 7 ≤ x1) => ?_) (fun (c75 : ¬ (7 ≤ x1)) => ?_)
    · rw [if_pos c75] at hf
      refine lv_iconst (v := zI 0) hx hb dX11_takeRead_115 rfl ?_
      refine lv_istore_n (lv' := [(1, .int (zI 0)), (0, .ref (q 0))]) hx hb dX11_takeRead_116 rfl hl (by decide) rfl (fun ls hl => ?_)
      exact wX11_takeRead_117 C hret FU σ 0 H locs ls hw (lv_sub hl [1, 0] rfl) hf
    · rw [if_neg c75] at hf
      refine lv_aload_n hx hb dX11_takeRead_78 rfl (lv_at hl 0 rfl) ?_
      refine va_get (D := D) (ci := 11) (v := .ref (q 1)) (C := RX11) (T := TX11) (N := 40) hx hb hts (fun _ h => List.mem_cons_of_mem _ (List.mem_append_right _ h)) hown hK hw.1 0 rfl rfl 3 (by decide) (hts (.fieldLink RX11 7 "EggThronesModel" "age" "[I") (List.mem_of_getElem? (i := 9) rfl)) (fun _ h9 => h9) rfl dX11_takeRead_79 ?_
      refine lv_iload_n hx hb dX11_takeRead_82 rfl (lv_at hl 1 rfl) ?_
      refine lv_aload_n hx hb dX11_takeRead_83 rfl (lv_at hl 0 rfl) ?_
      refine va_get (D := D) (ci := 11) (v := .ref (q 9)) (C := RX11) (T := TX11) (N := 40) hx hb hts (fun _ h => List.mem_cons_of_mem _ (List.mem_append_right _ h)) hown hK hw.1 0 rfl rfl 19 (by decide) (hts (.fieldLink RX11 38 "EggThronesModel" "readAge" "[I") (List.mem_of_getElem? (i := 10) rfl)) (fun _ h9 => h9) rfl dX11_takeRead_84 ?_
      refine lv_iload_n hx hb dX11_takeRead_87 rfl (lv_at hl 1 rfl) ?_
      obtain ⟨hi88, hf⟩ := gd_s hf
      refine zv_iald (D := D) hx hb hK hw.1 9 0 rfl rfl hi88 (by decide) dX11_takeRead_88 ?_
      obtain ⟨hi89, hf⟩ := gd_s hf
      refine zv_iast (D := D) hx hb hK hw.1 hw.2.1 hw.2.2 1 0 rfl rfl hi89 (by decide) dX11_takeRead_89 (fun H locs hP hD hS => ?_)
      have hw : Wd D A s (wM q cI cZ (sA σ 0 (va_up (σ.2 0) (Int.toNat x1) (σ.2 8 (Int.toNat x1))))) H locs := wdaM_0 hP hD hS
      obtain ⟨σ89, e89, hf⟩ := nm_s hf
      replace hf := bt_s hf
      rw [← e89] at hw
      refine lv_aload_n hx hb dX11_takeRead_90 rfl (lv_at hl 0 rfl) ?_
      refine va_get (D := D) (ci := 11) (v := .ref (q 2)) (C := RX11) (T := TX11) (N := 40) hx hb hts (fun _ h => List.mem_cons_of_mem _ (List.mem_append_right _ h)) hown hK hw.1 0 rfl rfl 4 (by decide) (hts (.fieldLink RX11 13 "EggThronesModel" "size" "[I") (List.mem_of_getElem? (i := 11) rfl)) (fun _ h9 => h9) rfl dX11_takeRead_91 ?_
      refine lv_iload_n hx hb dX11_takeRead_94 rfl (lv_at hl 1 rfl) ?_
      refine lv_aload_n hx hb dX11_takeRead_95 rfl (lv_at hl 0 rfl) ?_
      refine va_get (D := D) (ci := 11) (v := .ref (q 10)) (C := RX11) (T := TX11) (N := 40) hx hb hts (fun _ h => List.mem_cons_of_mem _ (List.mem_append_right _ h)) hown hK hw.1 0 rfl rfl 20 (by decide) (hts (.fieldLink RX11 41 "EggThronesModel" "readSize" "[I") (List.mem_of_getElem? (i := 12) rfl)) (fun _ h9 => h9) rfl dX11_takeRead_96 ?_
      refine lv_iload_n hx hb dX11_takeRead_99 rfl (lv_at hl 1 rfl) ?_
      obtain ⟨hi100, hf⟩ := gd_s hf
      refine zv_iald (D := D) hx hb hK hw.1 10 0 rfl rfl hi100 (by decide) dX11_takeRead_100 ?_
      obtain ⟨hi101, hf⟩ := gd_s hf
      refine zv_iast (D := D) hx hb hK hw.1 hw.2.1 hw.2.2 2 0 rfl rfl hi101 (by decide) dX11_takeRead_101 (fun H locs hP hD hS => ?_)
      have hw : Wd D A s (wM q cI cZ (sA σ89 1 (va_up (σ89.2 1) (Int.toNat x1) (σ89.2 9 (Int.toNat x1))))) H locs := wdaM_1 hP hD hS
      obtain ⟨σ101, e101, hf⟩ := nm_s hf
      replace hf := bt_s hf
      rw [← e101] at hw
      refine lv_aload_n hx hb dX11_takeRead_102 rfl (lv_at hl 0 rfl) ?_
      refine va_get (D := D) (ci := 11) (v := .ref (q 5)) (C := RX11) (T := TX11) (N := 40) hx hb hts (fun _ h => List.mem_cons_of_mem _ (List.mem_append_right _ h)) hown hK hw.1 0 rfl rfl 8 (by decide) (hts (.fieldLink RX11 22 "EggThronesModel" "wishes" "[I") (List.mem_of_getElem? (i := 13) rfl)) (fun _ h9 => h9) rfl dX11_takeRead_103 ?_
      refine lv_iload_n hx hb dX11_takeRead_106 rfl (lv_at hl 1 rfl) ?_
      refine lv_iconst (v := zI 1) hx hb dX11_takeRead_107 rfl ?_
      obtain ⟨hi108, hf⟩ := gd_s hf
      refine zv_iast (D := D) hx hb hK hw.1 hw.2.1 hw.2.2 5 0 rfl rfl hi108 (by decide) dX11_takeRead_108 (fun H locs hP hD hS => ?_)
      have hw : Wd D A s (wM q cI cZ (sA σ101 4 (va_up (σ101.2 4) (Int.toNat x1) 1))) H locs := wdaM_4 hP hD hS
      obtain ⟨σ108, e108, hf⟩ := nm_s hf
      replace hf := bt_s hf
      rw [← e108] at hw
      refine lv_iinc (v := zI (x1 + 1)) (lv' := [(1, .int (zI (x1 + 1))), (0, .ref (q 0))]) hx hb dX11_takeRead_109 hl (k := 1) rfl (zI_add _ _) (by decide) rfl (fun ls hl => ?_)
      refine lv_goto (tgt := 72) hx hb dX11_takeRead_112 (by decide) ?_
      exact ih σ108 (x1 + 1) H locs ls hw (lv_sub hl [1, 0] rfl) hf
set_option maxHeartbeats 4000000 in
set_option maxRecDepth 100000 in
theorem wX11_takeRead_38 {p : Program} {l : Launch} {e : Env} {s : State} {m : MethodId} {args : Array Value} {below : List Frame} {meth : Method} {c : Code} {D : va_G} {A : Nat → Prop} {q : Nat → Nat} {cI cZ : ClassId} {Q : State → Prop} {τ : St} (C : Cx p s m args meth c D (TY cI cZ) cX11_takeRead none 2 wsX11_takeRead RX11) (hret : RtV p l e rmX11_takeRead s m args below meth c D A cX11_takeRead Q (wM q cI cZ τ)) :
    ∀ (n : Nat) (σ : St) (x1 : Int) (H : Heap) (locs : List Loc) (ls : Array Slot), Wd D A s (wM q cI cZ σ) H locs → lv_has ls 2 [(0, .ref (q 0)), (1, .int (zI x1))] → pX11_takeRead_38 n σ x1 = some τ → W p l e rmX11_takeRead s m args below meth c H locs 0 0 Q (F0 m 38 ls []) := by
  obtain ⟨hx, hb, hr, hml, hown, hts, hlk, hK, hN⟩ := id C
  intro n
  induction n with
  | zero =>
    intro σ x1 H locs ls hw hl hf
    exact absurd (show (none : Option (St)) = some τ from hf) (by simp)
  | succ n ih =>
    intro σ x1 H locs ls hw hl hf
    rw [pX11_takeRead_38] at hf
    refine lv_iload_n hx hb dX11_takeRead_38 rfl (lv_at hl 1 rfl) ?_
    refine lv_bipush (v := zI 19) hx hb dX11_takeRead_39 (by decide +kernel) ?_
    obtain ⟨hg41, hf⟩ := gd_s hf
    refine zv_icmp_ge (tgt := 57) hx hb ⟨hg41, by decide⟩ dX11_takeRead_41 (by decide) (fun (c41 : 19 ≤ x1) => ?_) (fun (c41 : ¬ (19 ≤ x1)) => ?_)
    · rw [if_pos c41] at hf
      refine lv_aload_n hx hb dX11_takeRead_57 rfl (lv_at hl 0 rfl) ?_
      refine va_get (D := D) (ci := 11) (v := .ref (q 6)) (C := RX11) (T := TX11) (N := 40) hx hb hts (fun _ h => List.mem_cons_of_mem _ (List.mem_append_right _ h)) hown hK hw.1 0 rfl rfl 9 (by decide) (hts (.fieldLink RX11 25 "EggThronesModel" "now" "[I") (List.mem_of_getElem? (i := 8) rfl)) (fun _ h9 => h9) rfl dX11_takeRead_58 ?_
      refine lv_bipush (v := zI 14) hx hb dX11_takeRead_61 (by decide +kernel) ?_
      refine lv_aload_n hx hb dX11_takeRead_63 rfl (lv_at hl 0 rfl) ?_
      refine va_get (D := D) (ci := 11) (v := .ref (q 8)) (C := RX11) (T := TX11) (N := 40) hx hb hts (fun _ h => List.mem_cons_of_mem _ (List.mem_append_right _ h)) hown hK hw.1 0 rfl rfl 17 (by decide) (hts (.fieldLink RX11 35 "EggThronesModel" "readPan" "[I") (List.mem_of_getElem? (i := 1) rfl)) (fun _ h9 => h9) rfl dX11_takeRead_64 ?_
      refine lv_iconst (v := zI 1) hx hb dX11_takeRead_67 rfl ?_
      refine zv_iald (D := D) hx hb hK hw.1 8 0 rfl rfl (by decide) (by decide) dX11_takeRead_68 ?_
      refine zv_iast (D := D) hx hb hK hw.1 hw.2.1 hw.2.2 6 0 rfl rfl (by decide) (by decide) dX11_takeRead_69 (fun H locs hP hD hS => ?_)
      have hw : Wd D A s (wM q cI cZ (sA σ 5 (va_up (σ.2 5) 14 (σ.2 7 1)))) H locs := wdaM_5 hP hD hS
      obtain ⟨σ69, e69, hf⟩ := nm_s hf
      replace hf := bt_s hf
      rw [← e69] at hw
      refine lv_iconst (v := zI 0) hx hb dX11_takeRead_70 rfl ?_
      refine lv_istore_n (lv' := [(1, .int (zI 0)), (0, .ref (q 0))]) hx hb dX11_takeRead_71 rfl hl (by decide) rfl (fun ls hl => ?_)
      exact wX11_takeRead_72 C hret FU σ69 0 H locs ls hw (lv_sub hl [1, 0] rfl) hf
    · rw [if_neg c41] at hf
      refine lv_aload_n hx hb dX11_takeRead_44 rfl (lv_at hl 0 rfl) ?_
      refine va_get (D := D) (ci := 11) (v := .ref (q 6)) (C := RX11) (T := TX11) (N := 40) hx hb hts (fun _ h => List.mem_cons_of_mem _ (List.mem_append_right _ h)) hown hK hw.1 0 rfl rfl 9 (by decide) (hts (.fieldLink RX11 25 "EggThronesModel" "now" "[I") (List.mem_of_getElem? (i := 8) rfl)) (fun _ h9 => h9) rfl dX11_takeRead_45 ?_
      refine lv_iload_n hx hb dX11_takeRead_48 rfl (lv_at hl 1 rfl) ?_
      refine lv_iconst (v := zI 0) hx hb dX11_takeRead_49 rfl ?_
      obtain ⟨hi50, hf⟩ := gd_s hf
      refine zv_iast (D := D) hx hb hK hw.1 hw.2.1 hw.2.2 6 0 rfl rfl hi50 (by decide) dX11_takeRead_50 (fun H locs hP hD hS => ?_)
      have hw : Wd D A s (wM q cI cZ (sA σ 5 (va_up (σ.2 5) (Int.toNat x1) 0))) H locs := wdaM_5 hP hD hS
      obtain ⟨σ50, e50, hf⟩ := nm_s hf
      replace hf := bt_s hf
      rw [← e50] at hw
      refine lv_iinc (v := zI (x1 + 1)) (lv' := [(1, .int (zI (x1 + 1))), (0, .ref (q 0))]) hx hb dX11_takeRead_51 hl (k := 1) rfl (zI_add _ _) (by decide) rfl (fun ls hl => ?_)
      refine lv_goto (tgt := 38) hx hb dX11_takeRead_54 (by decide) ?_
      exact ih σ50 (x1 + 1) H locs ls hw (lv_sub hl [1, 0] rfl) hf
set_option maxHeartbeats 4000000 in
set_option maxRecDepth 100000 in
theorem wX11_takeRead_0 {p : Program} {l : Launch} {e : Env} {s : State} {m : MethodId} {args : Array Value} {below : List Frame} {meth : Method} {c : Code} {D : va_G} {A : Nat → Prop} {q : Nat → Nat} {cI cZ : ClassId} {Q : State → Prop} {τ : St} (C : Cx p s m args meth c D (TY cI cZ) cX11_takeRead none 2 wsX11_takeRead RX11) (hret : RtV p l e rmX11_takeRead s m args below meth c D A cX11_takeRead Q (wM q cI cZ τ)) :
    ∀ (σ : St) (H : Heap) (locs : List Loc) (ls : Array Slot), Wd D A s (wM q cI cZ σ) H locs → lv_has ls 2 [(0, .ref (q 0))] → pX11_takeRead_0 σ = some τ → W p l e rmX11_takeRead s m args below meth c H locs 0 0 Q (F0 m 0 ls []) := by
  obtain ⟨hx, hb, hr, hml, hown, hts, hlk, hK, hN⟩ := id C
  intro σ H locs ls hw hl hf
  rw [pX11_takeRead_0] at hf
  refine lv_aload_n hx hb dX11_takeRead_0 rfl (lv_at hl 0 rfl) ?_
  refine lv_aload_n hx hb dX11_takeRead_1 rfl (lv_at hl 0 rfl) ?_
  refine va_get (D := D) (ci := 11) (v := .ref (q 8)) (C := RX11) (T := TX11) (N := 40) hx hb hts (fun _ h => List.mem_cons_of_mem _ (List.mem_append_right _ h)) hown hK hw.1 0 rfl rfl 17 (by decide) (hts (.fieldLink RX11 35 "EggThronesModel" "readPan" "[I") (List.mem_of_getElem? (i := 1) rfl)) (fun _ h9 => h9) rfl dX11_takeRead_2 ?_
  refine lv_iconst (v := zI 0) hx hb dX11_takeRead_5 rfl ?_
  refine zv_iald (D := D) hx hb hK hw.1 8 0 rfl rfl (by decide) (by decide) dX11_takeRead_6 ?_
  refine va_put (D := D) (ci := 11) (v := .int (zI (σ.2 7 0))) (ty := .int) (C := RX11) (T := TX11) (N := 40) hx hb hts (fun _ h => List.mem_cons_of_mem _ (List.mem_append_right _ h)) tyX11 tyX11_ok nmX11 hown hK hw.1 hw.2.1 hw.2.2 0 rfl rfl 0 (by decide) (hts (.fieldLink RX11 90 "EggThronesModel" "holds" "I") (List.mem_of_getElem? (i := 2) rfl)) (fun _ h9 => h9) rfl (by decide +kernel) rfl rfl (Nat.le_of_ble_eq_true rfl) dX11_takeRead_7 (fun H locs hP hD hS => ?_)
  have hw : Wd D A s (wM q cI cZ (sI σ 0 (σ.2 7 0))) H locs := wdiM_0 hP hD hS
  obtain ⟨σ7, e7, hf⟩ := nm_s hf
  replace hf := bt_s hf
  rw [← e7] at hw
  refine lv_aload_n hx hb dX11_takeRead_10 rfl (lv_at hl 0 rfl) ?_
  refine lv_aload_n hx hb dX11_takeRead_11 rfl (lv_at hl 0 rfl) ?_
  refine va_get (D := D) (ci := 11) (v := .ref (q 8)) (C := RX11) (T := TX11) (N := 40) hx hb hts (fun _ h => List.mem_cons_of_mem _ (List.mem_append_right _ h)) hown hK hw.1 0 rfl rfl 17 (by decide) (hts (.fieldLink RX11 35 "EggThronesModel" "readPan" "[I") (List.mem_of_getElem? (i := 1) rfl)) (fun _ h9 => h9) rfl dX11_takeRead_12 ?_
  refine lv_iconst (v := zI 2) hx hb dX11_takeRead_15 rfl ?_
  refine zv_iald (D := D) hx hb hK hw.1 8 0 rfl rfl (by decide) (by decide) dX11_takeRead_16 ?_
  refine va_put (D := D) (ci := 11) (v := .int (zI (σ7.2 7 2))) (ty := .int) (C := RX11) (T := TX11) (N := 40) hx hb hts (fun _ h => List.mem_cons_of_mem _ (List.mem_append_right _ h)) tyX11 tyX11_ok nmX11 hown hK hw.1 hw.2.1 hw.2.2 0 rfl rfl 1 (by decide) (hts (.fieldLink RX11 153 "EggThronesModel" "bears" "I") (List.mem_of_getElem? (i := 3) rfl)) (fun _ h9 => h9) rfl (by decide +kernel) rfl rfl (Nat.le_of_ble_eq_true rfl) dX11_takeRead_17 (fun H locs hP hD hS => ?_)
  have hw : Wd D A s (wM q cI cZ (sI σ7 1 (σ7.2 7 2))) H locs := wdiM_1 hP hD hS
  obtain ⟨σ17, e17, hf⟩ := nm_s hf
  replace hf := bt_s hf
  rw [← e17] at hw
  refine lv_aload_n hx hb dX11_takeRead_20 rfl (lv_at hl 0 rfl) ?_
  refine lv_aload_n hx hb dX11_takeRead_21 rfl (lv_at hl 0 rfl) ?_
  refine va_get (D := D) (ci := 11) (v := .int (zI (σ17.1 10))) (C := RX11) (T := TX11) (N := 40) hx hb hts (fun _ h => List.mem_cons_of_mem _ (List.mem_append_right _ h)) hown hK hw.1 0 rfl rfl 18 (by decide) (hts (.fieldLink RX11 138 "EggThronesModel" "readEggs" "I") (List.mem_of_getElem? (i := 4) rfl)) (fun _ h9 => h9) rfl dX11_takeRead_22 ?_
  refine va_put (D := D) (ci := 11) (v := .int (zI (σ17.1 10))) (ty := .int) (C := RX11) (T := TX11) (N := 40) hx hb hts (fun _ h => List.mem_cons_of_mem _ (List.mem_append_right _ h)) tyX11 tyX11_ok nmX11 hown hK hw.1 hw.2.1 hw.2.2 0 rfl rfl 2 (by decide) (hts (.fieldLink RX11 93 "EggThronesModel" "eggs" "I") (List.mem_of_getElem? (i := 5) rfl)) (fun _ h9 => h9) rfl (by decide +kernel) rfl rfl (Nat.le_of_ble_eq_true rfl) dX11_takeRead_25 (fun H locs hP hD hS => ?_)
  have hw : Wd D A s (wM q cI cZ (sI σ17 2 (σ17.1 10))) H locs := wdiM_2 hP hD hS
  obtain ⟨σ25, e25, hf⟩ := nm_s hf
  replace hf := bt_s hf
  rw [← e25] at hw
  refine lv_aload_n hx hb dX11_takeRead_28 rfl (lv_at hl 0 rfl) ?_
  refine lv_aload_n hx hb dX11_takeRead_29 rfl (lv_at hl 0 rfl) ?_
  refine va_get (D := D) (ci := 11) (v := .int (zI (σ25.1 11))) (C := RX11) (T := TX11) (N := 40) hx hb hts (fun _ h => List.mem_cons_of_mem _ (List.mem_append_right _ h)) hown hK hw.1 0 rfl rfl 21 (by decide) (hts (.fieldLink RX11 141 "EggThronesModel" "readEaters" "I") (List.mem_of_getElem? (i := 6) rfl)) (fun _ h9 => h9) rfl dX11_takeRead_30 ?_
  refine va_put (D := D) (ci := 11) (v := .int (zI (σ25.1 11))) (ty := .int) (C := RX11) (T := TX11) (N := 40) hx hb hts (fun _ h => List.mem_cons_of_mem _ (List.mem_append_right _ h)) tyX11 tyX11_ok nmX11 hown hK hw.1 hw.2.1 hw.2.2 0 rfl rfl 5 (by decide) (hts (.fieldLink RX11 100 "EggThronesModel" "eaters" "I") (List.mem_of_getElem? (i := 7) rfl)) (fun _ h9 => h9) rfl (by decide +kernel) rfl rfl (Nat.le_of_ble_eq_true rfl) dX11_takeRead_33 (fun H locs hP hD hS => ?_)
  have hw : Wd D A s (wM q cI cZ (sI σ25 3 (σ25.1 11))) H locs := wdiM_3 hP hD hS
  obtain ⟨σ33, e33, hf⟩ := nm_s hf
  replace hf := bt_s hf
  rw [← e33] at hw
  refine lv_iconst (v := zI 0) hx hb dX11_takeRead_36 rfl ?_
  refine lv_istore_n (lv' := [(1, .int (zI 0)), (0, .ref (q 0))]) hx hb dX11_takeRead_37 rfl hl (by decide) rfl (fun ls hl => ?_)
  exact wX11_takeRead_38 C hret FU σ33 0 H locs ls hw (lv_sub hl [1, 0] rfl) hf
set_option maxHeartbeats 4000000 in
set_option maxRecDepth 100000 in
theorem tX11_takeRead {l : Launch} {D : va_G} {A : Nat → Prop} {cI cZ : ClassId} {q : Nat → Nat} {σ : St} {τ : St} (hf : pX11_takeRead σ = some τ) : Met l yX11_takeRead wsX11_takeRead rmX11_takeRead (va_Pc [.ref (q 0)] (CX D (TY cI cZ) A (wM q cI cZ σ))) (QV D (TY cI cZ) A (wM q cI cZ τ)) 0 0 A := by
  refine opn (cc := cX11_takeRead) (maxL := 2) (ret := none) (by decide) rfl (Nat.le_of_ble_eq_true rfl) (fun p e s m below meth c C ls hw hl => ?_)
  have hl : lv_has ls 2 [(0, .ref (q 0))] := hl
  rw [pX11_takeRead] at hf
  exact wX11_takeRead_0 C (rtV C) σ _ _ ls hw (lv_sub hl [0] rfl) hf
abbrev rmX11_here : Room := { frames := 0, cells := 0, slots := 0, locals := 0 }
set_option maxHeartbeats 4000000 in
set_option maxRecDepth 100000 in
theorem wX11_here_38 {p : Program} {l : Launch} {e : Env} {s : State} {m : MethodId} {args : Array Value} {below : List Frame} {meth : Method} {c : Code} {D : va_G} {A : Nat → Prop} {q : Nat → Nat} {cI cZ : ClassId} {Q : State → Prop} {r : Int} {τ : St} (C : Cx p s m args meth c D (TY cI cZ) cX11_here (some .int) 1 wsX11_here RX11) (hret : RtI p l e rmX11_here s m args below meth c D A cX11_here Q (wM q cI cZ τ) (zI r)) :
    ∀ (σ : St) (H : Heap) (locs : List Loc) (ls : Array Slot), Wd D A s (wM q cI cZ σ) H locs → lv_has ls 1 [(0, .ref (q 0))] → pX11_here_38 σ = some (r, τ) → W p l e rmX11_here s m args below meth c H locs 0 0 Q (F0 m 38 ls []) := by
  obtain ⟨hx, hb, hr, hml, hown, hts, hlk, hK, hN⟩ := id C
  intro σ H locs ls hw hl hf
  rw [pX11_here_38] at hf
  refine lv_aload_n hx hb dX11_here_38 rfl (lv_at hl 0 rfl) ?_
  refine va_get (D := D) (ci := 11) (v := .int (zI (σ.1 7))) (C := RX11) (T := TX11) (N := 40) hx hb hts (fun _ h => List.mem_cons_of_mem _ (List.mem_append_right _ h)) hown hK hw.1 0 rfl rfl 14 (by decide) (hts (.fieldLink RX11 110 "EggThronesModel" "at0" "I") (List.mem_of_getElem? (i := 1) rfl)) (fun _ h9 => h9) rfl dX11_here_39 ?_
  refine lv_aload_n hx hb dX11_here_42 rfl (lv_at hl 0 rfl) ?_
  refine va_get (D := D) (ci := 11) (v := .int (zI (σ.1 5))) (C := RX11) (T := TX11) (N := 40) hx hb hts (fun _ h => List.mem_cons_of_mem _ (List.mem_append_right _ h)) hown hK hw.1 0 rfl rfl 12 (by decide) (hts (.fieldLink RX11 106 "EggThronesModel" "texted" "I") (List.mem_of_getElem? (i := 2) rfl)) (fun _ h9 => h9) rfl dX11_here_43 ?_
  obtain ⟨hg46, hf⟩ := gd_s hf
  refine zv_icmp_ge (tgt := 61) hx hb hg46 dX11_here_46 (by decide) (fun (c46 : (σ.1 5) ≤ (σ.1 7)) => ?_) (fun (c46 : ¬ ((σ.1 5) ≤ (σ.1 7))) => ?_)
  · rw [if_pos c46] at hf
    refine lv_iconst (v := zI (-1)) hx hb dX11_here_61 rfl ?_
    cases hf
    exact hret H locs ls 62 dX11_here_62 hw
  · rw [if_neg c46] at hf
    refine lv_aload_n hx hb dX11_here_49 rfl (lv_at hl 0 rfl) ?_
    refine va_get (D := D) (ci := 11) (v := .ref (q 7)) (C := RX11) (T := TX11) (N := 40) hx hb hts (fun _ h => List.mem_cons_of_mem _ (List.mem_append_right _ h)) hown hK hw.1 0 rfl rfl 11 (by decide) (hts (.fieldLink RX11 28 "EggThronesModel" "text" "[I") (List.mem_of_getElem? (i := 3) rfl)) (fun _ h9 => h9) rfl dX11_here_50 ?_
    refine lv_aload_n hx hb dX11_here_53 rfl (lv_at hl 0 rfl) ?_
    refine va_get (D := D) (ci := 11) (v := .int (zI (σ.1 7))) (C := RX11) (T := TX11) (N := 40) hx hb hts (fun _ h => List.mem_cons_of_mem _ (List.mem_append_right _ h)) hown hK hw.1 0 rfl rfl 14 (by decide) (hts (.fieldLink RX11 110 "EggThronesModel" "at0" "I") (List.mem_of_getElem? (i := 1) rfl)) (fun _ h9 => h9) rfl dX11_here_54 ?_
    obtain ⟨hi57, hf⟩ := gd_s hf
    refine zv_iald (D := D) hx hb hK hw.1 7 0 rfl rfl hi57 (by decide) dX11_here_57 ?_
    refine lv_goto (tgt := 62) hx hb dX11_here_58 (by decide) ?_
    cases hf
    exact hret H locs ls 62 dX11_here_62 hw
set_option maxHeartbeats 4000000 in
set_option maxRecDepth 100000 in
theorem wX11_here_0 {p : Program} {l : Launch} {e : Env} {s : State} {m : MethodId} {args : Array Value} {below : List Frame} {meth : Method} {c : Code} {D : va_G} {A : Nat → Prop} {q : Nat → Nat} {cI cZ : ClassId} {Q : State → Prop} {r : Int} {τ : St} (C : Cx p s m args meth c D (TY cI cZ) cX11_here (some .int) 1 wsX11_here RX11) (hret : RtI p l e rmX11_here s m args below meth c D A cX11_here Q (wM q cI cZ τ) (zI r)) :
    ∀ (n : Nat) (σ : St) (H : Heap) (locs : List Loc) (ls : Array Slot), Wd D A s (wM q cI cZ σ) H locs → lv_has ls 1 [(0, .ref (q 0))] → pX11_here_0 n σ = some (r, τ) → W p l e rmX11_here s m args below meth c H locs 0 0 Q (F0 m 0 ls []) := by
  obtain ⟨hx, hb, hr, hml, hown, hts, hlk, hK, hN⟩ := id C
  intro n
  induction n with
  | zero =>
    intro σ H locs ls hw hl hf
    exact absurd (show (none : Option (Int × St)) = some (r, τ) from hf) (by simp)
  | succ n ih =>
    intro σ H locs ls hw hl hf
    rw [pX11_here_0] at hf
    refine lv_aload_n hx hb dX11_here_0 rfl (lv_at hl 0 rfl) ?_
    refine va_get (D := D) (ci := 11) (v := .int (zI (σ.1 7))) (C := RX11) (T := TX11) (N := 40) hx hb hts (fun _ h => List.mem_cons_of_mem _ (List.mem_append_right _ h)) hown hK hw.1 0 rfl rfl 14 (by decide) (hts (.fieldLink RX11 110 "EggThronesModel" "at0" "I") (List.mem_of_getElem? (i := 1) rfl)) (fun _ h9 => h9) rfl dX11_here_1 ?_
    refine lv_aload_n hx hb dX11_here_4 rfl (lv_at hl 0 rfl) ?_
    refine va_get (D := D) (ci := 11) (v := .int (zI (σ.1 5))) (C := RX11) (T := TX11) (N := 40) hx hb hts (fun _ h => List.mem_cons_of_mem _ (List.mem_append_right _ h)) hown hK hw.1 0 rfl rfl 12 (by decide) (hts (.fieldLink RX11 106 "EggThronesModel" "texted" "I") (List.mem_of_getElem? (i := 2) rfl)) (fun _ h9 => h9) rfl dX11_here_5 ?_
    obtain ⟨hg8, hf⟩ := gd_s hf
    refine zv_icmp_ge (tgt := 38) hx hb hg8 dX11_here_8 (by decide) (fun (c8 : (σ.1 5) ≤ (σ.1 7)) => ?_) (fun (c8 : ¬ ((σ.1 5) ≤ (σ.1 7))) => ?_)
    · rw [if_pos c8] at hf
      exact wX11_here_38 C hret σ H locs ls hw (lv_sub hl [0] rfl) hf
    · rw [if_neg c8] at hf
      refine lv_aload_n hx hb dX11_here_11 rfl (lv_at hl 0 rfl) ?_
      refine va_get (D := D) (ci := 11) (v := .ref (q 7)) (C := RX11) (T := TX11) (N := 40) hx hb hts (fun _ h => List.mem_cons_of_mem _ (List.mem_append_right _ h)) hown hK hw.1 0 rfl rfl 11 (by decide) (hts (.fieldLink RX11 28 "EggThronesModel" "text" "[I") (List.mem_of_getElem? (i := 3) rfl)) (fun _ h9 => h9) rfl dX11_here_12 ?_
      refine lv_aload_n hx hb dX11_here_15 rfl (lv_at hl 0 rfl) ?_
      refine va_get (D := D) (ci := 11) (v := .int (zI (σ.1 7))) (C := RX11) (T := TX11) (N := 40) hx hb hts (fun _ h => List.mem_cons_of_mem _ (List.mem_append_right _ h)) hown hK hw.1 0 rfl rfl 14 (by decide) (hts (.fieldLink RX11 110 "EggThronesModel" "at0" "I") (List.mem_of_getElem? (i := 1) rfl)) (fun _ h9 => h9) rfl dX11_here_16 ?_
      obtain ⟨hi19, hf⟩ := gd_s hf
      refine zv_iald (D := D) hx hb hK hw.1 7 0 rfl rfl hi19 (by decide) dX11_here_19 ?_
      refine lv_bipush (v := zI 32) hx hb dX11_here_20 (by decide +kernel) ?_
      obtain ⟨hg22, hf⟩ := gd_s hf
      refine zv_icmp_ne (tgt := 38) hx hb ⟨hg22, by decide⟩ dX11_here_22 (by decide) (fun (c22 : ¬ ((σ.2 6 (Int.toNat (σ.1 7))) = 32)) => ?_) (fun (c22 : (σ.2 6 (Int.toNat (σ.1 7))) = 32) => ?_)
      · rw [if_neg c22] at hf
        exact wX11_here_38 C hret σ H locs ls hw (lv_sub hl [0] rfl) hf
      · rw [if_pos c22] at hf
        refine lv_aload_n hx hb dX11_here_25 rfl (lv_at hl 0 rfl) ?_
        refine lv_dup hx hb dX11_here_26 rfl ?_
        refine va_get (D := D) (ci := 11) (v := .int (zI (σ.1 7))) (C := RX11) (T := TX11) (N := 40) hx hb hts (fun _ h => List.mem_cons_of_mem _ (List.mem_append_right _ h)) hown hK hw.1 0 rfl rfl 14 (by decide) (hts (.fieldLink RX11 110 "EggThronesModel" "at0" "I") (List.mem_of_getElem? (i := 1) rfl)) (fun _ h9 => h9) rfl dX11_here_27 ?_
        refine lv_iconst (v := zI 1) hx hb dX11_here_30 rfl ?_
        refine zv_iadd hx hb dX11_here_31 ?_
        refine va_put (D := D) (ci := 11) (v := .int (zI ((σ.1 7) + 1))) (ty := .int) (C := RX11) (T := TX11) (N := 40) hx hb hts (fun _ h => List.mem_cons_of_mem _ (List.mem_append_right _ h)) tyX11 tyX11_ok nmX11 hown hK hw.1 hw.2.1 hw.2.2 0 rfl rfl 14 (by decide) (hts (.fieldLink RX11 110 "EggThronesModel" "at0" "I") (List.mem_of_getElem? (i := 1) rfl)) (fun _ h9 => h9) rfl (by decide +kernel) rfl rfl (Nat.le_of_ble_eq_true rfl) dX11_here_32 (fun H locs hP hD hS => ?_)
        have hw : Wd D A s (wM q cI cZ (sI σ 7 ((σ.1 7) + 1))) H locs := wdiM_7 hP hD hS
        obtain ⟨σ32, e32, hf⟩ := nm_s hf
        replace hf := bt_s hf
        rw [← e32] at hw
        refine lv_goto (tgt := 0) hx hb dX11_here_35 (by decide) ?_
        exact ih σ32 H locs ls hw (lv_sub hl [0] rfl) hf
set_option maxHeartbeats 4000000 in
set_option maxRecDepth 100000 in
theorem tX11_here {l : Launch} {D : va_G} {A : Nat → Prop} {cI cZ : ClassId} {q : Nat → Nat} {σ : St} {r : Int} {τ : St} (hf : pX11_here σ = some (r, τ)) : Met l yX11_here wsX11_here rmX11_here (va_Pc [.ref (q 0)] (CX D (TY cI cZ) A (wM q cI cZ σ))) (QI D (TY cI cZ) A (wM q cI cZ τ) (zI r)) 0 0 A := by
  refine opn (cc := cX11_here) (maxL := 1) (ret := (some .int)) (by decide) rfl (Nat.le_of_ble_eq_true rfl) (fun p e s m below meth c C ls hw hl => ?_)
  have hl : lv_has ls 1 [(0, .ref (q 0))] := hl
  rw [pX11_here] at hf
  exact wX11_here_0 C (rtI C) FU σ _ _ ls hw (lv_sub hl [0] rfl) hf
abbrev rmX11_fails : Room := { frames := 0, cells := 0, slots := 0, locals := 0 }
set_option maxHeartbeats 4000000 in
set_option maxRecDepth 100000 in
theorem wX11_fails_0 {p : Program} {l : Launch} {e : Env} {s : State} {m : MethodId} {args : Array Value} {below : List Frame} {meth : Method} {c : Code} {D : va_G} {A : Nat → Prop} {q : Nat → Nat} {cI cZ : ClassId} {Q : State → Prop} {r : Int} {τ : St} (C : Cx p s m args meth c D (TY cI cZ) cX11_fails (some .int) 3 wsX11_fails RX11) (hret : RtI p l e rmX11_fails s m args below meth c D A cX11_fails Q (wM q cI cZ τ) (zI r)) :
    ∀ (σ : St) (x1 : Int) (x2 : Int) (H : Heap) (locs : List Loc) (ls : Array Slot), Wd D A s (wM q cI cZ σ) H locs → lv_has ls 3 [(0, .ref (q 0)), (1, .int (zI x1)), (2, .int (zI x2))] → pX11_fails_0 σ x1 x2 = some (r, τ) → W p l e rmX11_fails s m args below meth c H locs 0 0 Q (F0 m 0 ls []) := by
  obtain ⟨hx, hb, hr, hml, hown, hts, hlk, hK, hN⟩ := id C
  intro σ x1 x2 H locs ls hw hl hf
  rw [pX11_fails_0] at hf
  refine lv_aload_n hx hb dX11_fails_0 rfl (lv_at hl 0 rfl) ?_
  refine lv_iload_n hx hb dX11_fails_1 rfl (lv_at hl 2 rfl) ?_
  refine va_put (D := D) (ci := 11) (v := .int (zI x2)) (ty := .int) (C := RX11) (T := TX11) (N := 40) hx hb hts (fun _ h => List.mem_cons_of_mem _ (List.mem_append_right _ h)) tyX11 tyX11_ok nmX11 hown hK hw.1 hw.2.1 hw.2.2 0 rfl rfl 13 (by decide) (hts (.fieldLink RX11 31 "EggThronesModel" "faultPlace" "I") (List.mem_of_getElem? (i := 1) rfl)) (fun _ h9 => h9) rfl (by decide +kernel) rfl rfl (Nat.le_of_ble_eq_true rfl) dX11_fails_2 (fun H locs hP hD hS => ?_)
  have hw : Wd D A s (wM q cI cZ (sI σ 6 x2)) H locs := wdiM_6 hP hD hS
  obtain ⟨σ2, e2, hf⟩ := nm_s hf
  replace hf := bt_s hf
  rw [← e2] at hw
  refine lv_iload_n hx hb dX11_fails_5 rfl (lv_at hl 1 rfl) ?_
  cases hf
  exact hret H locs ls 6 dX11_fails_6 hw
set_option maxHeartbeats 4000000 in
set_option maxRecDepth 100000 in
theorem tX11_fails {l : Launch} {D : va_G} {A : Nat → Prop} {cI cZ : ClassId} {q : Nat → Nat} {σ : St} {x1 : Int} {x2 : Int} {r : Int} {τ : St} (hf : pX11_fails σ x1 x2 = some (r, τ)) : Met l yX11_fails wsX11_fails rmX11_fails (va_Pc [.ref (q 0), .int (zI x1), .int (zI x2)] (CX D (TY cI cZ) A (wM q cI cZ σ))) (QI D (TY cI cZ) A (wM q cI cZ τ) (zI r)) 0 0 A := by
  refine opn (cc := cX11_fails) (maxL := 3) (ret := (some .int)) (by decide) rfl (Nat.le_of_ble_eq_true rfl) (fun p e s m below meth c C ls hw hl => ?_)
  have hl : lv_has ls 3 [(0, .ref (q 0)), (1, .int (zI x1)), (2, .int (zI x2))] := hl
  rw [pX11_fails] at hf
  exact wX11_fails_0 C (rtI C) σ x1 x2 _ _ ls hw (lv_sub hl [0, 1, 2] rfl) hf
abbrev rmX11_takeNumber : Room := { frames := 1, cells := 0, slots := 0, locals := 25 }
set_option maxHeartbeats 4000000 in
set_option maxRecDepth 100000 in
theorem wX11_takeNumber_113 {p : Program} {l : Launch} {e : Env} {s : State} {m : MethodId} {args : Array Value} {below : List Frame} {meth : Method} {c : Code} {D : va_G} {A : Nat → Prop} {q : Nat → Nat} {cI cZ : ClassId} {Q : State → Prop} {r : Int} {τ : St} (C : Cx p s m args meth c D (TY cI cZ) cX11_takeNumber (some .int) 4 wsX11_takeNumber RX11) (hret : RtI p l e rmX11_takeNumber s m args below meth c D A cX11_takeNumber Q (wM q cI cZ τ) (zI r)) (k42 : St → Int → Int → Option (Int × St)) (hk42 : ∀ (σ : St) (x1 : Int) (x2 : Int) (H : Heap) (locs : List Loc) (ls : Array Slot), Wd D A s (wM q cI cZ σ) H locs → lv_has ls 4 [(0, .ref (q 0)), (1, .int (zI x1)), (2, .int (zI x2))] → k42 σ x1 x2 = some (r, τ) → W p l e rmX11_takeNumber s m args below meth c H locs 0 0 Q (F0 m 42 ls [])) :
    ∀ (σ : St) (x1 : Int) (x2 : Int) (t1 : Int) (H : Heap) (locs : List Loc) (ls : Array Slot), Wd D A s (wM q cI cZ σ) H locs → lv_has ls 4 [(0, .ref (q 0)), (1, .int (zI x1)), (2, .int (zI x2))] → pX11_takeNumber_113 k42 σ x1 x2 t1 = some (r, τ) → W p l e rmX11_takeNumber s m args below meth c H locs 0 0 Q (F0 m 113 ls [.int (zI t1), .ref (q 0)]) := by
  obtain ⟨hx, hb, hr, hml, hown, hts, hlk, hK, hN⟩ := id C
  intro σ x1 x2 t1 H locs ls hw hl hf
  rw [pX11_takeNumber_113] at hf
  refine va_put (D := D) (ci := 11) (v := .int (zI t1)) (ty := .int) (C := RX11) (T := TX11) (N := 40) hx hb hts (fun _ h => List.mem_cons_of_mem _ (List.mem_append_right _ h)) tyX11 tyX11_ok nmX11 hown hK hw.1 hw.2.1 hw.2.2 0 rfl rfl 15 (by decide) (hts (.fieldLink RX11 128 "EggThronesModel" "number" "I") (List.mem_of_getElem? (i := 5) rfl)) (fun _ h9 => h9) rfl (by decide +kernel) rfl rfl (Nat.le_of_ble_eq_true rfl) dX11_takeNumber_113 (fun H locs hP hD hS => ?_)
  have hw : Wd D A s (wM q cI cZ (sI σ 8 t1)) H locs := wdiM_8 hP hD hS
  obtain ⟨σ113, e113, hf⟩ := nm_s hf
  replace hf := bt_s hf
  rw [← e113] at hw
  refine lv_aload_n hx hb dX11_takeNumber_116 rfl (lv_at hl 0 rfl) ?_
  refine lv_dup hx hb dX11_takeNumber_117 rfl ?_
  refine va_get (D := D) (ci := 11) (v := .int (zI (σ113.1 7))) (C := RX11) (T := TX11) (N := 40) hx hb hts (fun _ h => List.mem_cons_of_mem _ (List.mem_append_right _ h)) hown hK hw.1 0 rfl rfl 14 (by decide) (hts (.fieldLink RX11 110 "EggThronesModel" "at0" "I") (List.mem_of_getElem? (i := 3) rfl)) (fun _ h9 => h9) rfl dX11_takeNumber_118 ?_
  refine lv_iconst (v := zI 1) hx hb dX11_takeNumber_121 rfl ?_
  refine zv_iadd hx hb dX11_takeNumber_122 ?_
  refine va_put (D := D) (ci := 11) (v := .int (zI ((σ113.1 7) + 1))) (ty := .int) (C := RX11) (T := TX11) (N := 40) hx hb hts (fun _ h => List.mem_cons_of_mem _ (List.mem_append_right _ h)) tyX11 tyX11_ok nmX11 hown hK hw.1 hw.2.1 hw.2.2 0 rfl rfl 14 (by decide) (hts (.fieldLink RX11 110 "EggThronesModel" "at0" "I") (List.mem_of_getElem? (i := 3) rfl)) (fun _ h9 => h9) rfl (by decide +kernel) rfl rfl (Nat.le_of_ble_eq_true rfl) dX11_takeNumber_123 (fun H locs hP hD hS => ?_)
  have hw : Wd D A s (wM q cI cZ (sI σ113 7 ((σ113.1 7) + 1))) H locs := wdiM_7 hP hD hS
  obtain ⟨σ123, e123, hf⟩ := nm_s hf
  replace hf := bt_s hf
  rw [← e123] at hw
  refine lv_goto (tgt := 42) hx hb dX11_takeNumber_126 (by decide) ?_
  exact hk42 σ123 x1 x2 H locs ls hw (lv_sub hl [0, 1, 2] rfl) hf
set_option maxHeartbeats 4000000 in
set_option maxRecDepth 100000 in
theorem wX11_takeNumber_157 {p : Program} {l : Launch} {e : Env} {s : State} {m : MethodId} {args : Array Value} {below : List Frame} {meth : Method} {c : Code} {D : va_G} {A : Nat → Prop} {q : Nat → Nat} {cI cZ : ClassId} {Q : State → Prop} {r : Int} {τ : St} (C : Cx p s m args meth c D (TY cI cZ) cX11_takeNumber (some .int) 4 wsX11_takeNumber RX11) (hret : RtI p l e rmX11_takeNumber s m args below meth c D A cX11_takeNumber Q (wM q cI cZ τ) (zI r)) :
    ∀ (σ : St) (H : Heap) (locs : List Loc) (ls : Array Slot), Wd D A s (wM q cI cZ σ) H locs → lv_has ls 4 [(0, .ref (q 0))] → pX11_takeNumber_157 σ = some (r, τ) → W p l e rmX11_takeNumber s m args below meth c H locs 0 0 Q (F0 m 157 ls []) := by
  obtain ⟨hx, hb, hr, hml, hown, hts, hlk, hK, hN⟩ := id C
  intro σ H locs ls hw hl hf
  rw [pX11_takeNumber_157] at hf
  refine lv_aload_n hx hb dX11_takeNumber_157 rfl (lv_at hl 0 rfl) ?_
  refine lv_iconst (v := zI 2) hx hb dX11_takeNumber_158 rfl ?_
  refine lv_aload_n hx hb dX11_takeNumber_159 rfl (lv_at hl 0 rfl) ?_
  refine va_get (D := D) (ci := 11) (v := .int (zI (σ.1 9))) (C := RX11) (T := TX11) (N := 40) hx hb hts (fun _ h => List.mem_cons_of_mem _ (List.mem_append_right _ h)) hown hK hw.1 0 rfl rfl 16 (by decide) (hts (.fieldLink RX11 125 "EggThronesModel" "numberAt" "I") (List.mem_of_getElem? (i := 4) rfl)) (fun _ h9 => h9) rfl dX11_takeNumber_160 ?_
  obtain ⟨⟨r163, σ163⟩, h163, hf⟩ := bd_s hf
  have hf := hf2_s hf
  refine gVi (As := [.int (zI 2), .int (zI (σ.1 9))]) (rest := []) C hw (tX11_fails h163) (cwV 2 hts gX11_takeNumber_X11_fails rfl rfl rfl (by decide +kernel) ⟨Nat.le_of_ble_eq_true rfl, Nat.le_of_ble_eq_true rfl⟩) 11 0 rfl rfl rfl hl.1 rfl (Nat.le_of_ble_eq_true rfl) dX11_takeNumber_163 (fun H locs hw => ?_)
  refine lv_goto (tgt := 170) hx hb dX11_takeNumber_166 (by decide) ?_
  cases hf
  exact hret H locs ls 170 dX11_takeNumber_170 hw
set_option maxHeartbeats 4000000 in
set_option maxRecDepth 100000 in
theorem wX11_takeNumber_129 {p : Program} {l : Launch} {e : Env} {s : State} {m : MethodId} {args : Array Value} {below : List Frame} {meth : Method} {c : Code} {D : va_G} {A : Nat → Prop} {q : Nat → Nat} {cI cZ : ClassId} {Q : State → Prop} {r : Int} {τ : St} (C : Cx p s m args meth c D (TY cI cZ) cX11_takeNumber (some .int) 4 wsX11_takeNumber RX11) (hret : RtI p l e rmX11_takeNumber s m args below meth c D A cX11_takeNumber Q (wM q cI cZ τ) (zI r)) :
    ∀ (σ : St) (x1 : Int) (x2 : Int) (H : Heap) (locs : List Loc) (ls : Array Slot), Wd D A s (wM q cI cZ σ) H locs → lv_has ls 4 [(0, .ref (q 0)), (1, .int (zI x1)), (2, .int (zI x2))] → pX11_takeNumber_129 σ x1 x2 = some (r, τ) → W p l e rmX11_takeNumber s m args below meth c H locs 0 0 Q (F0 m 129 ls []) := by
  obtain ⟨hx, hb, hr, hml, hown, hts, hlk, hK, hN⟩ := id C
  intro σ x1 x2 H locs ls hw hl hf
  rw [pX11_takeNumber_129] at hf
  refine lv_aload_n hx hb dX11_takeNumber_129 rfl (lv_at hl 0 rfl) ?_
  refine va_get (D := D) (ci := 11) (v := .int (zI (σ.1 7))) (C := RX11) (T := TX11) (N := 40) hx hb hts (fun _ h => List.mem_cons_of_mem _ (List.mem_append_right _ h)) hown hK hw.1 0 rfl rfl 14 (by decide) (hts (.fieldLink RX11 110 "EggThronesModel" "at0" "I") (List.mem_of_getElem? (i := 3) rfl)) (fun _ h9 => h9) rfl dX11_takeNumber_130 ?_
  refine lv_aload_n hx hb dX11_takeNumber_133 rfl (lv_at hl 0 rfl) ?_
  refine va_get (D := D) (ci := 11) (v := .int (zI (σ.1 9))) (C := RX11) (T := TX11) (N := 40) hx hb hts (fun _ h => List.mem_cons_of_mem _ (List.mem_append_right _ h)) hown hK hw.1 0 rfl rfl 16 (by decide) (hts (.fieldLink RX11 125 "EggThronesModel" "numberAt" "I") (List.mem_of_getElem? (i := 4) rfl)) (fun _ h9 => h9) rfl dX11_takeNumber_134 ?_
  refine zv_isub hx hb dX11_takeNumber_137 ?_
  refine lv_iconst (v := zI 3) hx hb dX11_takeNumber_138 rfl ?_
  obtain ⟨hg139, hf⟩ := gd_s hf
  refine zv_icmp_gt (tgt := 157) hx hb ⟨hg139, by decide⟩ dX11_takeNumber_139 (by decide) (fun (c139 : 3 < ((σ.1 7) - (σ.1 9))) => ?_) (fun (c139 : ¬ (3 < ((σ.1 7) - (σ.1 9)))) => ?_)
  · rw [if_pos c139] at hf
    exact wX11_takeNumber_157 C hret σ H locs ls hw (lv_sub hl [0] rfl) hf
  · rw [if_neg c139] at hf
    refine lv_aload_n hx hb dX11_takeNumber_142 rfl (lv_at hl 0 rfl) ?_
    refine va_get (D := D) (ci := 11) (v := .int (zI (σ.1 8))) (C := RX11) (T := TX11) (N := 40) hx hb hts (fun _ h => List.mem_cons_of_mem _ (List.mem_append_right _ h)) hown hK hw.1 0 rfl rfl 15 (by decide) (hts (.fieldLink RX11 128 "EggThronesModel" "number" "I") (List.mem_of_getElem? (i := 5) rfl)) (fun _ h9 => h9) rfl dX11_takeNumber_143 ?_
    obtain ⟨hz146, hf⟩ := gd_s hf
    refine zv_i2l hx hb hz146 dX11_takeNumber_146 ?_
    refine lv_iload_n hx hb dX11_takeNumber_147 rfl (lv_at hl 1 rfl) ?_
    obtain ⟨hz148, hf⟩ := gd_s hf
    refine zv_i2l hx hb hz148 dX11_takeNumber_148 ?_
    refine lv_iload_n hx hb dX11_takeNumber_149 rfl (lv_at hl 2 rfl) ?_
    obtain ⟨hz150, hf⟩ := gd_s hf
    refine zv_i2l hx hb hz150 dX11_takeNumber_150 ?_
    obtain ⟨r151, h151, hf⟩ := bd_s hf
    replace hf := bt_s hf
    refine gSi (As := [.long (zL (σ.1 8)), .long (zL x1), .long (zL x2)]) (rest := []) C hw (tX11_in h151) (va_cwS 3 hts gX11_takeNumber_X11_in rfl rfl rfl (by decide +kernel) ⟨Nat.le_of_ble_eq_true rfl, Nat.le_of_ble_eq_true rfl⟩) rfl hl.1 rfl (Nat.le_of_ble_eq_true rfl) dX11_takeNumber_151 (fun H locs hw => ?_)
    obtain ⟨hg154, hf⟩ := gd_s hf
    refine zv_if_ne (tgt := 169) hx hb hg154 dX11_takeNumber_154 (by decide) (fun (c154 : ¬ (r151 = 0)) => ?_) (fun (c154 : r151 = 0) => ?_)
    · rw [if_neg c154] at hf
      refine lv_iconst (v := zI 0) hx hb dX11_takeNumber_169 rfl ?_
      cases hf
      exact hret H locs ls 170 dX11_takeNumber_170 hw
    · rw [if_pos c154] at hf
      exact wX11_takeNumber_157 C hret σ H locs ls hw (lv_sub hl [0] rfl) hf
set_option maxHeartbeats 4000000 in
set_option maxRecDepth 100000 in
theorem wX11_takeNumber_42 {p : Program} {l : Launch} {e : Env} {s : State} {m : MethodId} {args : Array Value} {below : List Frame} {meth : Method} {c : Code} {D : va_G} {A : Nat → Prop} {q : Nat → Nat} {cI cZ : ClassId} {Q : State → Prop} {r : Int} {τ : St} (C : Cx p s m args meth c D (TY cI cZ) cX11_takeNumber (some .int) 4 wsX11_takeNumber RX11) (hret : RtI p l e rmX11_takeNumber s m args below meth c D A cX11_takeNumber Q (wM q cI cZ τ) (zI r)) :
    ∀ (n : Nat) (σ : St) (x1 : Int) (x2 : Int) (H : Heap) (locs : List Loc) (ls : Array Slot), Wd D A s (wM q cI cZ σ) H locs → lv_has ls 4 [(0, .ref (q 0)), (1, .int (zI x1)), (2, .int (zI x2))] → pX11_takeNumber_42 n σ x1 x2 = some (r, τ) → W p l e rmX11_takeNumber s m args below meth c H locs 0 0 Q (F0 m 42 ls []) := by
  obtain ⟨hx, hb, hr, hml, hown, hts, hlk, hK, hN⟩ := id C
  intro n
  induction n with
  | zero =>
    intro σ x1 x2 H locs ls hw hl hf
    exact absurd (show (none : Option (Int × St)) = some (r, τ) from hf) (by simp)
  | succ n ih =>
    intro σ x1 x2 H locs ls hw hl hf
    rw [pX11_takeNumber_42] at hf
    refine lv_aload_n hx hb dX11_takeNumber_42 rfl (lv_at hl 0 rfl) ?_
    refine va_get (D := D) (ci := 11) (v := .int (zI (σ.1 7))) (C := RX11) (T := TX11) (N := 40) hx hb hts (fun _ h => List.mem_cons_of_mem _ (List.mem_append_right _ h)) hown hK hw.1 0 rfl rfl 14 (by decide) (hts (.fieldLink RX11 110 "EggThronesModel" "at0" "I") (List.mem_of_getElem? (i := 3) rfl)) (fun _ h9 => h9) rfl dX11_takeNumber_43 ?_
    refine lv_aload_n hx hb dX11_takeNumber_46 rfl (lv_at hl 0 rfl) ?_
    refine va_get (D := D) (ci := 11) (v := .int (zI (σ.1 5))) (C := RX11) (T := TX11) (N := 40) hx hb hts (fun _ h => List.mem_cons_of_mem _ (List.mem_append_right _ h)) hown hK hw.1 0 rfl rfl 12 (by decide) (hts (.fieldLink RX11 106 "EggThronesModel" "texted" "I") (List.mem_of_getElem? (i := 6) rfl)) (fun _ h9 => h9) rfl dX11_takeNumber_47 ?_
    obtain ⟨hg50, hf⟩ := gd_s hf
    refine zv_icmp_ge (tgt := 129) hx hb hg50 dX11_takeNumber_50 (by decide) (fun (c50 : (σ.1 5) ≤ (σ.1 7)) => ?_) (fun (c50 : ¬ ((σ.1 5) ≤ (σ.1 7))) => ?_)
    · rw [if_pos c50] at hf
      exact wX11_takeNumber_129 C hret σ x1 x2 H locs ls hw (lv_sub hl [0, 1, 2] rfl) hf
    · rw [if_neg c50] at hf
      refine lv_aload_n hx hb dX11_takeNumber_53 rfl (lv_at hl 0 rfl) ?_
      refine va_get (D := D) (ci := 11) (v := .ref (q 7)) (C := RX11) (T := TX11) (N := 40) hx hb hts (fun _ h => List.mem_cons_of_mem _ (List.mem_append_right _ h)) hown hK hw.1 0 rfl rfl 11 (by decide) (hts (.fieldLink RX11 28 "EggThronesModel" "text" "[I") (List.mem_of_getElem? (i := 7) rfl)) (fun _ h9 => h9) rfl dX11_takeNumber_54 ?_
      refine lv_aload_n hx hb dX11_takeNumber_57 rfl (lv_at hl 0 rfl) ?_
      refine va_get (D := D) (ci := 11) (v := .int (zI (σ.1 7))) (C := RX11) (T := TX11) (N := 40) hx hb hts (fun _ h => List.mem_cons_of_mem _ (List.mem_append_right _ h)) hown hK hw.1 0 rfl rfl 14 (by decide) (hts (.fieldLink RX11 110 "EggThronesModel" "at0" "I") (List.mem_of_getElem? (i := 3) rfl)) (fun _ h9 => h9) rfl dX11_takeNumber_58 ?_
      obtain ⟨hi61, hf⟩ := gd_s hf
      refine zv_iald (D := D) hx hb hK hw.1 7 0 rfl rfl hi61 (by decide) dX11_takeNumber_61 ?_
      obtain ⟨hz62, hf⟩ := gd_s hf
      refine zv_i2l hx hb hz62 dX11_takeNumber_62 ?_
      refine zv_ldc2 hx hb 48 (by decide +kernel) hown (hts (.constantLong RX11 117 (48)) (List.mem_of_getElem? (i := 1) rfl)) dX11_takeNumber_63 ?_
      refine zv_ldc2 hx hb 57 (by decide +kernel) hown (hts (.constantLong RX11 119 (57)) (List.mem_of_getElem? (i := 2) rfl)) dX11_takeNumber_66 ?_
      obtain ⟨r69, h69, hf⟩ := bd_s hf
      replace hf := bt_s hf
      refine gSi (As := [.long (zL (σ.2 6 (Int.toNat (σ.1 7)))), .long (zL 48), .long (zL 57)]) (rest := []) C hw (tX11_in h69) (va_cwS 3 hts gX11_takeNumber_X11_in rfl rfl rfl (by decide +kernel) ⟨Nat.le_of_ble_eq_true rfl, Nat.le_of_ble_eq_true rfl⟩) rfl hl.1 rfl (Nat.le_of_ble_eq_true rfl) dX11_takeNumber_69 (fun H locs hw => ?_)
      obtain ⟨hg72, hf⟩ := gd_s hf
      refine zv_if_eq (tgt := 129) hx hb hg72 dX11_takeNumber_72 (by decide) (fun (c72 : r69 = 0) => ?_) (fun (c72 : ¬ (r69 = 0)) => ?_)
      · rw [if_pos c72] at hf
        exact wX11_takeNumber_129 C hret σ x1 x2 H locs ls hw (lv_sub hl [0, 1, 2] rfl) hf
      · rw [if_neg c72] at hf
        refine lv_aload_n hx hb dX11_takeNumber_75 rfl (lv_at hl 0 rfl) ?_
        refine lv_aload_n hx hb dX11_takeNumber_76 rfl (lv_at hl 0 rfl) ?_
        refine va_get (D := D) (ci := 11) (v := .int (zI (σ.1 8))) (C := RX11) (T := TX11) (N := 40) hx hb hts (fun _ h => List.mem_cons_of_mem _ (List.mem_append_right _ h)) hown hK hw.1 0 rfl rfl 15 (by decide) (hts (.fieldLink RX11 128 "EggThronesModel" "number" "I") (List.mem_of_getElem? (i := 5) rfl)) (fun _ h9 => h9) rfl dX11_takeNumber_77 ?_
        refine lv_sipush (v := zI 10000) hx hb dX11_takeNumber_80 (by decide +kernel) ?_
        obtain ⟨hg83, hf⟩ := gd_s hf
        refine zv_icmp_le (tgt := 93) hx hb ⟨hg83, by decide⟩ dX11_takeNumber_83 (by decide) (fun (c83 : (σ.1 8) ≤ 10000) => ?_) (fun (c83 : ¬ ((σ.1 8) ≤ 10000)) => ?_)
        · rw [if_pos c83] at hf
          refine lv_bipush (v := zI 10) hx hb dX11_takeNumber_93 (by decide +kernel) ?_
          refine lv_aload_n hx hb dX11_takeNumber_95 rfl (lv_at hl 0 rfl) ?_
          refine va_get (D := D) (ci := 11) (v := .int (zI (σ.1 8))) (C := RX11) (T := TX11) (N := 40) hx hb hts (fun _ h => List.mem_cons_of_mem _ (List.mem_append_right _ h)) hown hK hw.1 0 rfl rfl 15 (by decide) (hts (.fieldLink RX11 128 "EggThronesModel" "number" "I") (List.mem_of_getElem? (i := 5) rfl)) (fun _ h9 => h9) rfl dX11_takeNumber_96 ?_
          refine zv_imul hx hb dX11_takeNumber_99 ?_
          refine lv_aload_n hx hb dX11_takeNumber_100 rfl (lv_at hl 0 rfl) ?_
          refine va_get (D := D) (ci := 11) (v := .ref (q 7)) (C := RX11) (T := TX11) (N := 40) hx hb hts (fun _ h => List.mem_cons_of_mem _ (List.mem_append_right _ h)) hown hK hw.1 0 rfl rfl 11 (by decide) (hts (.fieldLink RX11 28 "EggThronesModel" "text" "[I") (List.mem_of_getElem? (i := 7) rfl)) (fun _ h9 => h9) rfl dX11_takeNumber_101 ?_
          refine lv_aload_n hx hb dX11_takeNumber_104 rfl (lv_at hl 0 rfl) ?_
          refine va_get (D := D) (ci := 11) (v := .int (zI (σ.1 7))) (C := RX11) (T := TX11) (N := 40) hx hb hts (fun _ h => List.mem_cons_of_mem _ (List.mem_append_right _ h)) hown hK hw.1 0 rfl rfl 14 (by decide) (hts (.fieldLink RX11 110 "EggThronesModel" "at0" "I") (List.mem_of_getElem? (i := 3) rfl)) (fun _ h9 => h9) rfl dX11_takeNumber_105 ?_
          obtain ⟨hi108, hf⟩ := gd_s hf
          refine zv_iald (D := D) hx hb hK hw.1 7 0 rfl rfl hi108 (by decide) dX11_takeNumber_108 ?_
          refine zv_iadd hx hb dX11_takeNumber_109 ?_
          refine lv_bipush (v := zI 48) hx hb dX11_takeNumber_110 (by decide +kernel) ?_
          refine zv_isub hx hb dX11_takeNumber_112 ?_
          exact wX11_takeNumber_113 C hret _ ih σ x1 x2 (((10 * (σ.1 8)) + (σ.2 6 (Int.toNat (σ.1 7)))) - 48) H locs ls hw (lv_sub hl [0, 1, 2] rfl) hf
        · rw [if_neg c83] at hf
          refine lv_aload_n hx hb dX11_takeNumber_86 rfl (lv_at hl 0 rfl) ?_
          refine va_get (D := D) (ci := 11) (v := .int (zI (σ.1 8))) (C := RX11) (T := TX11) (N := 40) hx hb hts (fun _ h => List.mem_cons_of_mem _ (List.mem_append_right _ h)) hown hK hw.1 0 rfl rfl 15 (by decide) (hts (.fieldLink RX11 128 "EggThronesModel" "number" "I") (List.mem_of_getElem? (i := 5) rfl)) (fun _ h9 => h9) rfl dX11_takeNumber_87 ?_
          refine lv_goto (tgt := 113) hx hb dX11_takeNumber_90 (by decide) ?_
          exact wX11_takeNumber_113 C hret _ ih σ x1 x2 (σ.1 8) H locs ls hw (lv_sub hl [0, 1, 2] rfl) hf
set_option maxHeartbeats 4000000 in
set_option maxRecDepth 100000 in
theorem wX11_takeNumber_0 {p : Program} {l : Launch} {e : Env} {s : State} {m : MethodId} {args : Array Value} {below : List Frame} {meth : Method} {c : Code} {D : va_G} {A : Nat → Prop} {q : Nat → Nat} {cI cZ : ClassId} {Q : State → Prop} {r : Int} {τ : St} (C : Cx p s m args meth c D (TY cI cZ) cX11_takeNumber (some .int) 4 wsX11_takeNumber RX11) (hret : RtI p l e rmX11_takeNumber s m args below meth c D A cX11_takeNumber Q (wM q cI cZ τ) (zI r)) :
    ∀ (σ : St) (x1 : Int) (x2 : Int) (H : Heap) (locs : List Loc) (ls : Array Slot), Wd D A s (wM q cI cZ σ) H locs → lv_has ls 4 [(0, .ref (q 0)), (1, .int (zI x1)), (2, .int (zI x2))] → pX11_takeNumber_0 σ x1 x2 = some (r, τ) → W p l e rmX11_takeNumber s m args below meth c H locs 0 0 Q (F0 m 0 ls []) := by
  obtain ⟨hx, hb, hr, hml, hown, hts, hlk, hK, hN⟩ := id C
  intro σ x1 x2 H locs ls hw hl hf
  rw [pX11_takeNumber_0] at hf
  refine lv_aload_n hx hb dX11_takeNumber_0 rfl (lv_at hl 0 rfl) ?_
  obtain ⟨⟨r1, σ1⟩, h1, hf⟩ := bd_s hf
  have hf := hf2_s hf
  refine gVi (As := []) (rest := []) C hw (tX11_here h1) (cwV 0 hts gX11_takeNumber_X11_here rfl rfl rfl (by decide +kernel) ⟨Nat.le_of_ble_eq_true rfl, Nat.le_of_ble_eq_true rfl⟩) 11 0 rfl rfl rfl hl.1 rfl (Nat.le_of_ble_eq_true rfl) dX11_takeNumber_1 (fun H locs hw => ?_)
  refine lv_istore_n (lv' := [(3, .int (zI r1)), (0, .ref (q 0)), (1, .int (zI x1)), (2, .int (zI x2))]) hx hb dX11_takeNumber_4 rfl hl (by decide) rfl (fun ls hl => ?_)
  refine lv_iload_n hx hb dX11_takeNumber_5 rfl (lv_at hl 0 rfl) ?_
  obtain ⟨hz6, hf⟩ := gd_s hf
  refine zv_i2l hx hb hz6 dX11_takeNumber_6 ?_
  refine zv_ldc2 hx hb 48 (by decide +kernel) hown (hts (.constantLong RX11 117 (48)) (List.mem_of_getElem? (i := 1) rfl)) dX11_takeNumber_7 ?_
  refine zv_ldc2 hx hb 57 (by decide +kernel) hown (hts (.constantLong RX11 119 (57)) (List.mem_of_getElem? (i := 2) rfl)) dX11_takeNumber_10 ?_
  obtain ⟨r13, h13, hf⟩ := bd_s hf
  replace hf := bt_s hf
  refine gSi (As := [.long (zL r1), .long (zL 48), .long (zL 57)]) (rest := []) C hw (tX11_in h13) (va_cwS 3 hts gX11_takeNumber_X11_in rfl rfl rfl (by decide +kernel) ⟨Nat.le_of_ble_eq_true rfl, Nat.le_of_ble_eq_true rfl⟩) rfl hl.1 rfl (Nat.le_of_ble_eq_true rfl) dX11_takeNumber_13 (fun H locs hw => ?_)
  obtain ⟨hg16, hf⟩ := gd_s hf
  refine zv_if_ne (tgt := 29) hx hb hg16 dX11_takeNumber_16 (by decide) (fun (c16 : ¬ (r13 = 0)) => ?_) (fun (c16 : r13 = 0) => ?_)
  · rw [if_neg c16] at hf
    refine lv_aload_n hx hb dX11_takeNumber_29 rfl (lv_at hl 1 rfl) ?_
    refine lv_aload_n hx hb dX11_takeNumber_30 rfl (lv_at hl 1 rfl) ?_
    refine va_get (D := D) (ci := 11) (v := .int (zI (σ1.1 7))) (C := RX11) (T := TX11) (N := 40) hx hb hts (fun _ h => List.mem_cons_of_mem _ (List.mem_append_right _ h)) hown hK hw.1 0 rfl rfl 14 (by decide) (hts (.fieldLink RX11 110 "EggThronesModel" "at0" "I") (List.mem_of_getElem? (i := 3) rfl)) (fun _ h9 => h9) rfl dX11_takeNumber_31 ?_
    refine va_put (D := D) (ci := 11) (v := .int (zI (σ1.1 7))) (ty := .int) (C := RX11) (T := TX11) (N := 40) hx hb hts (fun _ h => List.mem_cons_of_mem _ (List.mem_append_right _ h)) tyX11 tyX11_ok nmX11 hown hK hw.1 hw.2.1 hw.2.2 0 rfl rfl 16 (by decide) (hts (.fieldLink RX11 125 "EggThronesModel" "numberAt" "I") (List.mem_of_getElem? (i := 4) rfl)) (fun _ h9 => h9) rfl (by decide +kernel) rfl rfl (Nat.le_of_ble_eq_true rfl) dX11_takeNumber_34 (fun H locs hP hD hS => ?_)
    have hw : Wd D A s (wM q cI cZ (sI σ1 9 (σ1.1 7))) H locs := wdiM_9 hP hD hS
    obtain ⟨σ34, e34, hf⟩ := nm_s hf
    replace hf := bt_s hf
    rw [← e34] at hw
    refine lv_aload_n hx hb dX11_takeNumber_37 rfl (lv_at hl 1 rfl) ?_
    refine lv_iconst (v := zI 0) hx hb dX11_takeNumber_38 rfl ?_
    refine va_put (D := D) (ci := 11) (v := .int (zI 0)) (ty := .int) (C := RX11) (T := TX11) (N := 40) hx hb hts (fun _ h => List.mem_cons_of_mem _ (List.mem_append_right _ h)) tyX11 tyX11_ok nmX11 hown hK hw.1 hw.2.1 hw.2.2 0 rfl rfl 15 (by decide) (hts (.fieldLink RX11 128 "EggThronesModel" "number" "I") (List.mem_of_getElem? (i := 5) rfl)) (fun _ h9 => h9) rfl (by decide +kernel) rfl rfl (Nat.le_of_ble_eq_true rfl) dX11_takeNumber_39 (fun H locs hP hD hS => ?_)
    have hw : Wd D A s (wM q cI cZ (sI σ34 8 0)) H locs := wdiM_8 hP hD hS
    obtain ⟨σ39, e39, hf⟩ := nm_s hf
    replace hf := bt_s hf
    rw [← e39] at hw
    exact wX11_takeNumber_42 C hret FU σ39 x1 x2 H locs ls hw (lv_sub hl [1, 2, 3] rfl) hf
  · rw [if_pos c16] at hf
    refine lv_aload_n hx hb dX11_takeNumber_19 rfl (lv_at hl 1 rfl) ?_
    refine lv_iconst (v := zI 1) hx hb dX11_takeNumber_20 rfl ?_
    refine lv_aload_n hx hb dX11_takeNumber_21 rfl (lv_at hl 1 rfl) ?_
    refine va_get (D := D) (ci := 11) (v := .int (zI (σ1.1 7))) (C := RX11) (T := TX11) (N := 40) hx hb hts (fun _ h => List.mem_cons_of_mem _ (List.mem_append_right _ h)) hown hK hw.1 0 rfl rfl 14 (by decide) (hts (.fieldLink RX11 110 "EggThronesModel" "at0" "I") (List.mem_of_getElem? (i := 3) rfl)) (fun _ h9 => h9) rfl dX11_takeNumber_22 ?_
    obtain ⟨⟨r25, σ25⟩, h25, hf⟩ := bd_s hf
    have hf := hf2_s hf
    refine gVi (As := [.int (zI 1), .int (zI (σ1.1 7))]) (rest := []) C hw (tX11_fails h25) (cwV 2 hts gX11_takeNumber_X11_fails rfl rfl rfl (by decide +kernel) ⟨Nat.le_of_ble_eq_true rfl, Nat.le_of_ble_eq_true rfl⟩) 11 0 rfl rfl rfl hl.1 rfl (Nat.le_of_ble_eq_true rfl) dX11_takeNumber_25 (fun H locs hw => ?_)
    cases hf
    exact hret H locs ls 28 dX11_takeNumber_28 hw
set_option maxHeartbeats 4000000 in
set_option maxRecDepth 100000 in
theorem tX11_takeNumber {l : Launch} {D : va_G} {A : Nat → Prop} {cI cZ : ClassId} {q : Nat → Nat} {σ : St} {x1 : Int} {x2 : Int} {r : Int} {τ : St} (hf : pX11_takeNumber σ x1 x2 = some (r, τ)) : Met l yX11_takeNumber wsX11_takeNumber rmX11_takeNumber (va_Pc [.ref (q 0), .int (zI x1), .int (zI x2)] (CX D (TY cI cZ) A (wM q cI cZ σ))) (QI D (TY cI cZ) A (wM q cI cZ τ) (zI r)) 0 0 A := by
  refine opn (cc := cX11_takeNumber) (maxL := 4) (ret := (some .int)) (by decide) rfl (Nat.le_of_ble_eq_true rfl) (fun p e s m below meth c C ls hw hl => ?_)
  have hl : lv_has ls 4 [(0, .ref (q 0)), (1, .int (zI x1)), (2, .int (zI x2))] := hl
  rw [pX11_takeNumber] at hf
  exact wX11_takeNumber_0 C (rtI C) σ x1 x2 _ _ ls hw (lv_sub hl [0, 1, 2] rfl) hf
abbrev rmX11_into_a11 : Room := { frames := 2, cells := 0, slots := 0, locals := 48 }
set_option maxHeartbeats 4000000 in
set_option maxRecDepth 100000 in
theorem wX11_into_a11_0 {p : Program} {l : Launch} {e : Env} {s : State} {m : MethodId} {args : Array Value} {below : List Frame} {meth : Method} {c : Code} {D : va_G} {A : Nat → Prop} {q : Nat → Nat} {cI cZ : ClassId} {Q : State → Prop} {r : Int} {τ : St} (C : Cx p s m args meth c D (TY cI cZ) cX11_into (some .int) 6 wsX11_into RX11) (hret : RtI p l e rmX11_into_a11 s m args below meth c D A cX11_into Q (wM q cI cZ τ) (zI r)) :
    ∀ (σ : St) (x2 : Int) (x3 : Int) (x4 : Int) (H : Heap) (locs : List Loc) (ls : Array Slot), Wd D A s (wM q cI cZ σ) H locs → lv_has ls 6 [(0, .ref (q 0)), (1, .ref (q 11)), (2, .int (zI x2)), (3, .int (zI x3)), (4, .int (zI x4))] → pX11_into_a11_0 σ x2 x3 x4 = some (r, τ) → W p l e rmX11_into_a11 s m args below meth c H locs 0 0 Q (F0 m 0 ls []) := by
  obtain ⟨hx, hb, hr, hml, hown, hts, hlk, hK, hN⟩ := id C
  intro σ x2 x3 x4 H locs ls hw hl hf
  rw [pX11_into_a11_0] at hf
  refine lv_aload_n hx hb dX11_into_0 rfl (lv_at hl 0 rfl) ?_
  refine lv_iload_n hx hb dX11_into_1 rfl (lv_at hl 3 rfl) ?_
  refine lv_iload hx hb dX11_into_2 (lv_at hl 4 rfl) ?_
  obtain ⟨⟨r4, σ4⟩, h4, hf⟩ := bd_s hf
  have hf := hf2_s hf
  refine gVi (As := [.int (zI x3), .int (zI x4)]) (rest := []) C hw (tX11_takeNumber h4) (cwV 2 hts gX11_into_X11_takeNumber rfl rfl rfl (by decide +kernel) ⟨Nat.le_of_ble_eq_true rfl, Nat.le_of_ble_eq_true rfl⟩) 11 0 rfl rfl rfl hl.1 rfl (Nat.le_of_ble_eq_true rfl) dX11_into_4 (fun H locs hw => ?_)
  refine lv_istore (lv' := [(5, .int (zI r4)), (0, .ref (q 0)), (1, .ref (q 11)), (2, .int (zI x2)), (3, .int (zI x3)), (4, .int (zI x4))]) hx hb dX11_into_7 hl (by decide) rfl (fun ls hl => ?_)
  refine lv_aload_n hx hb dX11_into_9 rfl (lv_at hl 2 rfl) ?_
  refine lv_iload_n hx hb dX11_into_10 rfl (lv_at hl 3 rfl) ?_
  refine lv_aload_n hx hb dX11_into_11 rfl (lv_at hl 1 rfl) ?_
  refine va_get (D := D) (ci := 11) (v := .int (zI (σ4.1 8))) (C := RX11) (T := TX11) (N := 40) hx hb hts (fun _ h => List.mem_cons_of_mem _ (List.mem_append_right _ h)) hown hK hw.1 0 rfl rfl 15 (by decide) (hts (.fieldLink RX11 128 "EggThronesModel" "number" "I") (List.mem_of_getElem? (i := 1) rfl)) (fun _ h9 => h9) rfl dX11_into_12 ?_
  obtain ⟨hi15, hf⟩ := gd_s hf
  refine zv_iast (D := D) hx hb hK hw.1 hw.2.1 hw.2.2 11 0 rfl rfl hi15 (by decide) dX11_into_15 (fun H locs hP hD hS => ?_)
  have hw : Wd D A s (wM q cI cZ (sA σ4 10 (va_up (σ4.2 10) (Int.toNat x2) (σ4.1 8)))) H locs := wdaM_10 hP hD hS
  obtain ⟨σ15, e15, hf⟩ := nm_s hf
  replace hf := bt_s hf
  rw [← e15] at hw
  refine lv_iload hx hb dX11_into_16 (lv_at hl 0 rfl) ?_
  cases hf
  exact hret H locs ls 18 dX11_into_18 hw
set_option maxHeartbeats 4000000 in
set_option maxRecDepth 100000 in
theorem tX11_into_a11 {l : Launch} {D : va_G} {A : Nat → Prop} {cI cZ : ClassId} {q : Nat → Nat} {σ : St} {x2 : Int} {x3 : Int} {x4 : Int} {r : Int} {τ : St} (hf : pX11_into_a11 σ x2 x3 x4 = some (r, τ)) : Met l yX11_into wsX11_into rmX11_into_a11 (va_Pc [.ref (q 0), .ref (q 11), .int (zI x2), .int (zI x3), .int (zI x4)] (CX D (TY cI cZ) A (wM q cI cZ σ))) (QI D (TY cI cZ) A (wM q cI cZ τ) (zI r)) 0 0 A := by
  refine opn (cc := cX11_into) (maxL := 6) (ret := (some .int)) (by decide) rfl (Nat.le_of_ble_eq_true rfl) (fun p e s m below meth c C ls hw hl => ?_)
  have hl : lv_has ls 6 [(0, .ref (q 0)), (1, .ref (q 11)), (2, .int (zI x2)), (3, .int (zI x3)), (4, .int (zI x4))] := hl
  rw [pX11_into_a11] at hf
  exact wX11_into_a11_0 C (rtI C) σ x2 x3 x4 _ _ ls hw (lv_sub hl [0, 1, 2, 3, 4] rfl) hf
abbrev rmX11_into_a12 : Room := { frames := 2, cells := 0, slots := 0, locals := 48 }
set_option maxHeartbeats 4000000 in
set_option maxRecDepth 100000 in
theorem wX11_into_a12_0 {p : Program} {l : Launch} {e : Env} {s : State} {m : MethodId} {args : Array Value} {below : List Frame} {meth : Method} {c : Code} {D : va_G} {A : Nat → Prop} {q : Nat → Nat} {cI cZ : ClassId} {Q : State → Prop} {r : Int} {τ : St} (C : Cx p s m args meth c D (TY cI cZ) cX11_into (some .int) 6 wsX11_into RX11) (hret : RtI p l e rmX11_into_a12 s m args below meth c D A cX11_into Q (wM q cI cZ τ) (zI r)) :
    ∀ (σ : St) (x2 : Int) (x3 : Int) (x4 : Int) (H : Heap) (locs : List Loc) (ls : Array Slot), Wd D A s (wM q cI cZ σ) H locs → lv_has ls 6 [(0, .ref (q 0)), (1, .ref (q 12)), (2, .int (zI x2)), (3, .int (zI x3)), (4, .int (zI x4))] → pX11_into_a12_0 σ x2 x3 x4 = some (r, τ) → W p l e rmX11_into_a12 s m args below meth c H locs 0 0 Q (F0 m 0 ls []) := by
  obtain ⟨hx, hb, hr, hml, hown, hts, hlk, hK, hN⟩ := id C
  intro σ x2 x3 x4 H locs ls hw hl hf
  rw [pX11_into_a12_0] at hf
  refine lv_aload_n hx hb dX11_into_0 rfl (lv_at hl 0 rfl) ?_
  refine lv_iload_n hx hb dX11_into_1 rfl (lv_at hl 3 rfl) ?_
  refine lv_iload hx hb dX11_into_2 (lv_at hl 4 rfl) ?_
  obtain ⟨⟨r4, σ4⟩, h4, hf⟩ := bd_s hf
  have hf := hf2_s hf
  refine gVi (As := [.int (zI x3), .int (zI x4)]) (rest := []) C hw (tX11_takeNumber h4) (cwV 2 hts gX11_into_X11_takeNumber rfl rfl rfl (by decide +kernel) ⟨Nat.le_of_ble_eq_true rfl, Nat.le_of_ble_eq_true rfl⟩) 11 0 rfl rfl rfl hl.1 rfl (Nat.le_of_ble_eq_true rfl) dX11_into_4 (fun H locs hw => ?_)
  refine lv_istore (lv' := [(5, .int (zI r4)), (0, .ref (q 0)), (1, .ref (q 12)), (2, .int (zI x2)), (3, .int (zI x3)), (4, .int (zI x4))]) hx hb dX11_into_7 hl (by decide) rfl (fun ls hl => ?_)
  refine lv_aload_n hx hb dX11_into_9 rfl (lv_at hl 2 rfl) ?_
  refine lv_iload_n hx hb dX11_into_10 rfl (lv_at hl 3 rfl) ?_
  refine lv_aload_n hx hb dX11_into_11 rfl (lv_at hl 1 rfl) ?_
  refine va_get (D := D) (ci := 11) (v := .int (zI (σ4.1 8))) (C := RX11) (T := TX11) (N := 40) hx hb hts (fun _ h => List.mem_cons_of_mem _ (List.mem_append_right _ h)) hown hK hw.1 0 rfl rfl 15 (by decide) (hts (.fieldLink RX11 128 "EggThronesModel" "number" "I") (List.mem_of_getElem? (i := 1) rfl)) (fun _ h9 => h9) rfl dX11_into_12 ?_
  obtain ⟨hi15, hf⟩ := gd_s hf
  refine zv_iast (D := D) hx hb hK hw.1 hw.2.1 hw.2.2 12 0 rfl rfl hi15 (by decide) dX11_into_15 (fun H locs hP hD hS => ?_)
  have hw : Wd D A s (wM q cI cZ (sA σ4 11 (va_up (σ4.2 11) (Int.toNat x2) (σ4.1 8)))) H locs := wdaM_11 hP hD hS
  obtain ⟨σ15, e15, hf⟩ := nm_s hf
  replace hf := bt_s hf
  rw [← e15] at hw
  refine lv_iload hx hb dX11_into_16 (lv_at hl 0 rfl) ?_
  cases hf
  exact hret H locs ls 18 dX11_into_18 hw
set_option maxHeartbeats 4000000 in
set_option maxRecDepth 100000 in
theorem tX11_into_a12 {l : Launch} {D : va_G} {A : Nat → Prop} {cI cZ : ClassId} {q : Nat → Nat} {σ : St} {x2 : Int} {x3 : Int} {x4 : Int} {r : Int} {τ : St} (hf : pX11_into_a12 σ x2 x3 x4 = some (r, τ)) : Met l yX11_into wsX11_into rmX11_into_a12 (va_Pc [.ref (q 0), .ref (q 12), .int (zI x2), .int (zI x3), .int (zI x4)] (CX D (TY cI cZ) A (wM q cI cZ σ))) (QI D (TY cI cZ) A (wM q cI cZ τ) (zI r)) 0 0 A := by
  refine opn (cc := cX11_into) (maxL := 6) (ret := (some .int)) (by decide) rfl (Nat.le_of_ble_eq_true rfl) (fun p e s m below meth c C ls hw hl => ?_)
  have hl : lv_has ls 6 [(0, .ref (q 0)), (1, .ref (q 12)), (2, .int (zI x2)), (3, .int (zI x3)), (4, .int (zI x4))] := hl
  rw [pX11_into_a12] at hf
  exact wX11_into_a12_0 C (rtI C) σ x2 x3 x4 _ _ ls hw (lv_sub hl [0, 1, 2, 3, 4] rfl) hf
abbrev rmX11_takeEater : Room := { frames := 3, cells := 0, slots := 0, locals := 73 }
set_option maxHeartbeats 4000000 in
set_option maxRecDepth 100000 in
theorem wX11_takeEater_0 {p : Program} {l : Launch} {e : Env} {s : State} {m : MethodId} {args : Array Value} {below : List Frame} {meth : Method} {c : Code} {D : va_G} {A : Nat → Prop} {q : Nat → Nat} {cI cZ : ClassId} {Q : State → Prop} {r : Int} {τ : St} (C : Cx p s m args meth c D (TY cI cZ) cX11_takeEater (some .int) 3 wsX11_takeEater RX11) (hret : RtI p l e rmX11_takeEater s m args below meth c D A cX11_takeEater Q (wM q cI cZ τ) (zI r)) :
    ∀ (σ : St) (H : Heap) (locs : List Loc) (ls : Array Slot), Wd D A s (wM q cI cZ σ) H locs → lv_has ls 3 [(0, .ref (q 0))] → pX11_takeEater_0 σ = some (r, τ) → W p l e rmX11_takeEater s m args below meth c H locs 0 0 Q (F0 m 0 ls []) := by
  obtain ⟨hx, hb, hr, hml, hown, hts, hlk, hK, hN⟩ := id C
  intro σ H locs ls hw hl hf
  rw [pX11_takeEater_0] at hf
  refine lv_aload_n hx hb dX11_takeEater_0 rfl (lv_at hl 0 rfl) ?_
  refine va_get (D := D) (ci := 11) (v := .int (zI (σ.1 11))) (C := RX11) (T := TX11) (N := 40) hx hb hts (fun _ h => List.mem_cons_of_mem _ (List.mem_append_right _ h)) hown hK hw.1 0 rfl rfl 21 (by decide) (hts (.fieldLink RX11 141 "EggThronesModel" "readEaters" "I") (List.mem_of_getElem? (i := 1) rfl)) (fun _ h9 => h9) rfl dX11_takeEater_1 ?_
  refine lv_istore_n (lv' := [(1, .int (zI (σ.1 11))), (0, .ref (q 0))]) hx hb dX11_takeEater_4 rfl hl (by decide) rfl (fun ls hl => ?_)
  refine lv_aload_n hx hb dX11_takeEater_5 rfl (lv_at hl 1 rfl) ?_
  refine lv_dup hx hb dX11_takeEater_6 rfl ?_
  refine va_get (D := D) (ci := 11) (v := .int (zI (σ.1 11))) (C := RX11) (T := TX11) (N := 40) hx hb hts (fun _ h => List.mem_cons_of_mem _ (List.mem_append_right _ h)) hown hK hw.1 0 rfl rfl 21 (by decide) (hts (.fieldLink RX11 141 "EggThronesModel" "readEaters" "I") (List.mem_of_getElem? (i := 1) rfl)) (fun _ h9 => h9) rfl dX11_takeEater_7 ?_
  refine lv_iconst (v := zI 1) hx hb dX11_takeEater_10 rfl ?_
  refine zv_iadd hx hb dX11_takeEater_11 ?_
  refine va_put (D := D) (ci := 11) (v := .int (zI ((σ.1 11) + 1))) (ty := .int) (C := RX11) (T := TX11) (N := 40) hx hb hts (fun _ h => List.mem_cons_of_mem _ (List.mem_append_right _ h)) tyX11 tyX11_ok nmX11 hown hK hw.1 hw.2.1 hw.2.2 0 rfl rfl 21 (by decide) (hts (.fieldLink RX11 141 "EggThronesModel" "readEaters" "I") (List.mem_of_getElem? (i := 1) rfl)) (fun _ h9 => h9) rfl (by decide +kernel) rfl rfl (Nat.le_of_ble_eq_true rfl) dX11_takeEater_12 (fun H locs hP hD hS => ?_)
  have hw : Wd D A s (wM q cI cZ (sI σ 11 ((σ.1 11) + 1))) H locs := wdiM_11 hP hD hS
  obtain ⟨σ12, e12, hf⟩ := nm_s hf
  replace hf := bt_s hf
  rw [← e12] at hw
  refine lv_aload_n hx hb dX11_takeEater_15 rfl (lv_at hl 1 rfl) ?_
  refine lv_aload_n hx hb dX11_takeEater_16 rfl (lv_at hl 1 rfl) ?_
  refine va_get (D := D) (ci := 11) (v := .ref (q 11)) (C := RX11) (T := TX11) (N := 40) hx hb hts (fun _ h => List.mem_cons_of_mem _ (List.mem_append_right _ h)) hown hK hw.1 0 rfl rfl 22 (by decide) (hts (.fieldLink RX11 44 "EggThronesModel" "readLeast" "[I") (List.mem_of_getElem? (i := 2) rfl)) (fun _ h9 => h9) rfl dX11_takeEater_17 ?_
  refine lv_iload_n hx hb dX11_takeEater_20 rfl (lv_at hl 0 rfl) ?_
  refine lv_iconst (v := zI 0) hx hb dX11_takeEater_21 rfl ?_
  refine lv_bipush (v := zI 99) hx hb dX11_takeEater_22 (by decide +kernel) ?_
  obtain ⟨⟨r24, σ24⟩, h24, hf⟩ := bd_s hf
  have hf := hf2_s hf
  refine gVi (As := [.ref (q 11), .int (zI (σ.1 11)), .int (zI 0), .int (zI 99)]) (rest := []) C hw (tX11_into_a11 h24) (cwV 4 hts gX11_takeEater_X11_into rfl rfl rfl (by decide +kernel) ⟨Nat.le_of_ble_eq_true rfl, Nat.le_of_ble_eq_true rfl⟩) 11 0 rfl rfl rfl hl.1 rfl (Nat.le_of_ble_eq_true rfl) dX11_takeEater_24 (fun H locs hw => ?_)
  refine lv_istore_n (lv' := [(2, .int (zI r24)), (1, .int (zI (σ.1 11))), (0, .ref (q 0))]) hx hb dX11_takeEater_27 rfl hl (by decide) rfl (fun ls hl => ?_)
  refine lv_iload_n hx hb dX11_takeEater_28 rfl (lv_at hl 0 rfl) ?_
  obtain ⟨hg29, hf⟩ := gd_s hf
  refine zv_if_le (tgt := 36) hx hb hg29 dX11_takeEater_29 (by decide) (fun (c29 : r24 ≤ 0) => ?_) (fun (c29 : ¬ (r24 ≤ 0)) => ?_)
  · rw [if_pos c29] at hf
    refine lv_aload_n hx hb dX11_takeEater_36 rfl (lv_at hl 2 rfl) ?_
    refine lv_aload_n hx hb dX11_takeEater_37 rfl (lv_at hl 2 rfl) ?_
    refine va_get (D := D) (ci := 11) (v := .ref (q 12)) (C := RX11) (T := TX11) (N := 40) hx hb hts (fun _ h => List.mem_cons_of_mem _ (List.mem_append_right _ h)) hown hK hw.1 0 rfl rfl 23 (by decide) (hts (.fieldLink RX11 47 "EggThronesModel" "readMost" "[I") (List.mem_of_getElem? (i := 3) rfl)) (fun _ h9 => h9) rfl dX11_takeEater_38 ?_
    refine lv_iload_n hx hb dX11_takeEater_41 rfl (lv_at hl 1 rfl) ?_
    refine lv_aload_n hx hb dX11_takeEater_42 rfl (lv_at hl 2 rfl) ?_
    refine va_get (D := D) (ci := 11) (v := .ref (q 11)) (C := RX11) (T := TX11) (N := 40) hx hb hts (fun _ h => List.mem_cons_of_mem _ (List.mem_append_right _ h)) hown hK hw.1 0 rfl rfl 22 (by decide) (hts (.fieldLink RX11 44 "EggThronesModel" "readLeast" "[I") (List.mem_of_getElem? (i := 2) rfl)) (fun _ h9 => h9) rfl dX11_takeEater_43 ?_
    refine lv_iload_n hx hb dX11_takeEater_46 rfl (lv_at hl 1 rfl) ?_
    obtain ⟨hi47, hf⟩ := gd_s hf
    refine zv_iald (D := D) hx hb hK hw.1 11 0 rfl rfl hi47 (by decide) dX11_takeEater_47 ?_
    refine lv_bipush (v := zI 99) hx hb dX11_takeEater_48 (by decide +kernel) ?_
    obtain ⟨⟨r50, σ50⟩, h50, hf⟩ := bd_s hf
    have hf := hf2_s hf
    refine gVi (As := [.ref (q 12), .int (zI (σ.1 11)), .int (zI (σ24.2 10 (Int.toNat (σ.1 11)))), .int (zI 99)]) (rest := []) C hw (tX11_into_a12 h50) (cwV 4 hts gX11_takeEater_X11_into rfl rfl rfl (by decide +kernel) ⟨Nat.le_of_ble_eq_true rfl, Nat.le_of_ble_eq_true rfl⟩) 11 0 rfl rfl rfl hl.1 rfl (Nat.le_of_ble_eq_true rfl) dX11_takeEater_50 (fun H locs hw => ?_)
    cases hf
    exact hret H locs ls 53 dX11_takeEater_53 hw
  · rw [if_neg c29] at hf
    refine lv_iload_n hx hb dX11_takeEater_32 rfl (lv_at hl 0 rfl) ?_
    refine lv_goto (tgt := 53) hx hb dX11_takeEater_33 (by decide) ?_
    cases hf
    exact hret H locs ls 53 dX11_takeEater_53 hw
set_option maxHeartbeats 4000000 in
set_option maxRecDepth 100000 in
theorem tX11_takeEater {l : Launch} {D : va_G} {A : Nat → Prop} {cI cZ : ClassId} {q : Nat → Nat} {σ : St} {r : Int} {τ : St} (hf : pX11_takeEater σ = some (r, τ)) : Met l yX11_takeEater wsX11_takeEater rmX11_takeEater (va_Pc [.ref (q 0)] (CX D (TY cI cZ) A (wM q cI cZ σ))) (QI D (TY cI cZ) A (wM q cI cZ τ) (zI r)) 0 0 A := by
  refine opn (cc := cX11_takeEater) (maxL := 3) (ret := (some .int)) (by decide) rfl (Nat.le_of_ble_eq_true rfl) (fun p e s m below meth c C ls hw hl => ?_)
  have hl : lv_has ls 3 [(0, .ref (q 0))] := hl
  rw [pX11_takeEater] at hf
  exact wX11_takeEater_0 C (rtI C) σ _ _ ls hw (lv_sub hl [0] rfl) hf
abbrev rmX11_into_a9 : Room := { frames := 2, cells := 0, slots := 0, locals := 48 }
set_option maxHeartbeats 4000000 in
set_option maxRecDepth 100000 in
theorem wX11_into_a9_0 {p : Program} {l : Launch} {e : Env} {s : State} {m : MethodId} {args : Array Value} {below : List Frame} {meth : Method} {c : Code} {D : va_G} {A : Nat → Prop} {q : Nat → Nat} {cI cZ : ClassId} {Q : State → Prop} {r : Int} {τ : St} (C : Cx p s m args meth c D (TY cI cZ) cX11_into (some .int) 6 wsX11_into RX11) (hret : RtI p l e rmX11_into_a9 s m args below meth c D A cX11_into Q (wM q cI cZ τ) (zI r)) :
    ∀ (σ : St) (x2 : Int) (x3 : Int) (x4 : Int) (H : Heap) (locs : List Loc) (ls : Array Slot), Wd D A s (wM q cI cZ σ) H locs → lv_has ls 6 [(0, .ref (q 0)), (1, .ref (q 9)), (2, .int (zI x2)), (3, .int (zI x3)), (4, .int (zI x4))] → pX11_into_a9_0 σ x2 x3 x4 = some (r, τ) → W p l e rmX11_into_a9 s m args below meth c H locs 0 0 Q (F0 m 0 ls []) := by
  obtain ⟨hx, hb, hr, hml, hown, hts, hlk, hK, hN⟩ := id C
  intro σ x2 x3 x4 H locs ls hw hl hf
  rw [pX11_into_a9_0] at hf
  refine lv_aload_n hx hb dX11_into_0 rfl (lv_at hl 0 rfl) ?_
  refine lv_iload_n hx hb dX11_into_1 rfl (lv_at hl 3 rfl) ?_
  refine lv_iload hx hb dX11_into_2 (lv_at hl 4 rfl) ?_
  obtain ⟨⟨r4, σ4⟩, h4, hf⟩ := bd_s hf
  have hf := hf2_s hf
  refine gVi (As := [.int (zI x3), .int (zI x4)]) (rest := []) C hw (tX11_takeNumber h4) (cwV 2 hts gX11_into_X11_takeNumber rfl rfl rfl (by decide +kernel) ⟨Nat.le_of_ble_eq_true rfl, Nat.le_of_ble_eq_true rfl⟩) 11 0 rfl rfl rfl hl.1 rfl (Nat.le_of_ble_eq_true rfl) dX11_into_4 (fun H locs hw => ?_)
  refine lv_istore (lv' := [(5, .int (zI r4)), (0, .ref (q 0)), (1, .ref (q 9)), (2, .int (zI x2)), (3, .int (zI x3)), (4, .int (zI x4))]) hx hb dX11_into_7 hl (by decide) rfl (fun ls hl => ?_)
  refine lv_aload_n hx hb dX11_into_9 rfl (lv_at hl 2 rfl) ?_
  refine lv_iload_n hx hb dX11_into_10 rfl (lv_at hl 3 rfl) ?_
  refine lv_aload_n hx hb dX11_into_11 rfl (lv_at hl 1 rfl) ?_
  refine va_get (D := D) (ci := 11) (v := .int (zI (σ4.1 8))) (C := RX11) (T := TX11) (N := 40) hx hb hts (fun _ h => List.mem_cons_of_mem _ (List.mem_append_right _ h)) hown hK hw.1 0 rfl rfl 15 (by decide) (hts (.fieldLink RX11 128 "EggThronesModel" "number" "I") (List.mem_of_getElem? (i := 1) rfl)) (fun _ h9 => h9) rfl dX11_into_12 ?_
  obtain ⟨hi15, hf⟩ := gd_s hf
  refine zv_iast (D := D) hx hb hK hw.1 hw.2.1 hw.2.2 9 0 rfl rfl hi15 (by decide) dX11_into_15 (fun H locs hP hD hS => ?_)
  have hw : Wd D A s (wM q cI cZ (sA σ4 8 (va_up (σ4.2 8) (Int.toNat x2) (σ4.1 8)))) H locs := wdaM_8 hP hD hS
  obtain ⟨σ15, e15, hf⟩ := nm_s hf
  replace hf := bt_s hf
  rw [← e15] at hw
  refine lv_iload hx hb dX11_into_16 (lv_at hl 0 rfl) ?_
  cases hf
  exact hret H locs ls 18 dX11_into_18 hw
set_option maxHeartbeats 4000000 in
set_option maxRecDepth 100000 in
theorem tX11_into_a9 {l : Launch} {D : va_G} {A : Nat → Prop} {cI cZ : ClassId} {q : Nat → Nat} {σ : St} {x2 : Int} {x3 : Int} {x4 : Int} {r : Int} {τ : St} (hf : pX11_into_a9 σ x2 x3 x4 = some (r, τ)) : Met l yX11_into wsX11_into rmX11_into_a9 (va_Pc [.ref (q 0), .ref (q 9), .int (zI x2), .int (zI x3), .int (zI x4)] (CX D (TY cI cZ) A (wM q cI cZ σ))) (QI D (TY cI cZ) A (wM q cI cZ τ) (zI r)) 0 0 A := by
  refine opn (cc := cX11_into) (maxL := 6) (ret := (some .int)) (by decide) rfl (Nat.le_of_ble_eq_true rfl) (fun p e s m below meth c C ls hw hl => ?_)
  have hl : lv_has ls 6 [(0, .ref (q 0)), (1, .ref (q 9)), (2, .int (zI x2)), (3, .int (zI x3)), (4, .int (zI x4))] := hl
  rw [pX11_into_a9] at hf
  exact wX11_into_a9_0 C (rtI C) σ x2 x3 x4 _ _ ls hw (lv_sub hl [0, 1, 2, 3, 4] rfl) hf
