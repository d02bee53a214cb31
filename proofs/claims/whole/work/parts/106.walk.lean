abbrev rmX10_told : Room := { frames := 5, cells := 0, slots := 0, locals := 118 }
set_option maxHeartbeats 4000000 in
set_option maxRecDepth 100000 in
theorem wX10_told_0 {p : Program} {l : Launch} {e : Env} {s : State} {m : MethodId} {args : Array Value} {below : List Frame} {meth : Method} {c : Code} {D : va_G} {A : Nat → Prop} {q : Nat → Nat} {cI cZ : ClassId} {Q : State → Prop} {σ : St} {r : Int} (C : Cx p s m args meth c D (TY cI cZ) cX10_told (some .int) 2 wsX10_told RX10) (hret : RtI p l e rmX10_told s m args below meth c D A cX10_told Q (wE q cI cZ σ) (zI r)) :
    ∀ (x1 : Int) (H : Heap) (locs : List Loc) (ls : Array Slot), Wd D A s (wE q cI cZ σ) H locs → lv_has ls 2 [(0, .ref (q 0)), (1, .int (zI x1))] → pX10_told_0 σ x1 = some r → W p l e rmX10_told s m args below meth c H locs 0 0 Q (F0 m 0 ls []) := by
  obtain ⟨hx, hb, hr, hml, hown, hts, hlk, hK, hN⟩ := id C
  intro x1 H locs ls hw hl hf
  rw [pX10_told_0] at hf
  refine lv_iload_n hx hb dX10_told_0 rfl (lv_at hl 1 rfl) ?_
  obtain ⟨hg1, hf⟩ := gd_s hf
  by_cases c1_0 : x1 = 0
  · rw [if_pos c1_0] at hf
    refine lv_tableIn (off := 87) (tgt := 88) hx hb dX10_told_1 (by rw [zI_toInt hg1, c1_0]; decide) (by rw [zI_toInt hg1, c1_0]; decide) (by rw [zI_toInt hg1, c1_0]; rfl) (by decide) ?_
    refine lv_aload_n hx hb dX10_told_88 rfl (lv_at hl 0 rfl) ?_
    refine va_get (D := D) (ci := 10) (v := .ref (q 1)) (C := RX10) (T := TX10) (N := 13) hx hb hts (fun _ h => List.mem_cons_of_mem _ (List.mem_append_left _ (List.mem_append_left _ (List.mem_append_left _ (List.mem_append_left _ (List.mem_append_left _ (List.mem_append_left _ (List.mem_append_right _ h)))))))) hown hK hw.1 0 rfl rfl 1 (by decide) (hts (.fieldLink RX10 19 "EggThrones" "laid" "LEggThrones$Table;") (List.mem_of_getElem? (i := 1) rfl)) (fun _ h9 => h9) rfl dX10_told_89 ?_
    refine va_getN (D := D) (ci := 8) (v := .int (zI (σ.1 2))) (C := RX8) (T := TX8) (N := 10) hx hb hts (fun _ h => List.mem_cons_of_mem _ (List.mem_append_left _ (List.mem_append_left _ (List.mem_append_left _ (List.mem_append_left _ (List.mem_append_left _ (List.mem_append_right _ h))))))) hown hK hw.1 1 rfl rfl 0 (by decide) (va_Nw.use rfl (hN (.fieldLinkNest "EggThrones" 130 "EggThrones$Table" "places" "I" "EggThrones") (by decide +kernel))) (fun _ h9 => h9) rfl dX10_told_92 ?_
    cases hf
    exact hret H locs ls 95 dX10_told_95 hw
  rw [if_neg c1_0] at hf
  by_cases c1_1 : x1 = 1
  · rw [if_pos c1_1] at hf
    refine lv_tableIn (off := 95) (tgt := 96) hx hb dX10_told_1 (by rw [zI_toInt hg1, c1_1]; decide) (by rw [zI_toInt hg1, c1_1]; decide) (by rw [zI_toInt hg1, c1_1]; rfl) (by decide) ?_
    refine lv_aload_n hx hb dX10_told_96 rfl (lv_at hl 0 rfl) ?_
    refine va_get (D := D) (ci := 10) (v := .ref (q 15)) (C := RX10) (T := TX10) (N := 13) hx hb hts (fun _ h => List.mem_cons_of_mem _ (List.mem_append_left _ (List.mem_append_left _ (List.mem_append_left _ (List.mem_append_left _ (List.mem_append_left _ (List.mem_append_left _ (List.mem_append_right _ h)))))))) hown hK hw.1 0 rfl rfl 3 (by decide) (hts (.fieldLink RX10 31 "EggThrones" "now" "LEggThrones$Morning;") (List.mem_of_getElem? (i := 2) rfl)) (fun _ h9 => h9) rfl dX10_told_97 ?_
    refine va_getN (D := D) (ci := 4) (v := .int (zI (σ.1 18))) (C := RX4) (T := TX4) (N := 9) hx hb hts (fun _ h => List.mem_cons_of_mem _ (List.mem_append_left _ (List.mem_append_left _ (List.mem_append_left _ (List.mem_append_left _ (List.mem_append_right _ h)))))) hown hK hw.1 15 rfl rfl 5 (by decide) (va_Nw.use rfl (hN (.fieldLinkNest "EggThrones" 133 "EggThrones$Morning" "soldiers" "I" "EggThrones") (by decide +kernel))) (fun _ h9 => h9) rfl dX10_told_100 ?_
    cases hf
    exact hret H locs ls 103 dX10_told_103 hw
  rw [if_neg c1_1] at hf
  by_cases c1_2 : x1 = 2
  · rw [if_pos c1_2] at hf
    refine lv_tableIn (off := 103) (tgt := 104) hx hb dX10_told_1 (by rw [zI_toInt hg1, c1_2]; decide) (by rw [zI_toInt hg1, c1_2]; decide) (by rw [zI_toInt hg1, c1_2]; rfl) (by decide) ?_
    refine lv_aload_n hx hb dX10_told_104 rfl (lv_at hl 0 rfl) ?_
    refine va_get (D := D) (ci := 10) (v := .ref (q 1)) (C := RX10) (T := TX10) (N := 13) hx hb hts (fun _ h => List.mem_cons_of_mem _ (List.mem_append_left _ (List.mem_append_left _ (List.mem_append_left _ (List.mem_append_left _ (List.mem_append_left _ (List.mem_append_left _ (List.mem_append_right _ h)))))))) hown hK hw.1 0 rfl rfl 1 (by decide) (hts (.fieldLink RX10 19 "EggThrones" "laid" "LEggThrones$Table;") (List.mem_of_getElem? (i := 1) rfl)) (fun _ h9 => h9) rfl dX10_told_105 ?_
    refine va_getN (D := D) (ci := 8) (v := .int (zI (σ.1 4))) (C := RX8) (T := TX8) (N := 10) hx hb hts (fun _ h => List.mem_cons_of_mem _ (List.mem_append_left _ (List.mem_append_left _ (List.mem_append_left _ (List.mem_append_left _ (List.mem_append_left _ (List.mem_append_right _ h))))))) hown hK hw.1 1 rfl rfl 2 (by decide) (va_Nw.use rfl (hN (.fieldLinkNest "EggThrones" 136 "EggThrones$Table" "limit" "I" "EggThrones") (by decide +kernel))) (fun _ h9 => h9) rfl dX10_told_108 ?_
    cases hf
    exact hret H locs ls 111 dX10_told_111 hw
  rw [if_neg c1_2] at hf
  by_cases c1_3 : x1 = 3
  · rw [if_pos c1_3] at hf
    refine lv_tableIn (off := 111) (tgt := 112) hx hb dX10_told_1 (by rw [zI_toInt hg1, c1_3]; decide) (by rw [zI_toInt hg1, c1_3]; decide) (by rw [zI_toInt hg1, c1_3]; rfl) (by decide) ?_
    refine lv_aload_n hx hb dX10_told_112 rfl (lv_at hl 0 rfl) ?_
    refine va_get (D := D) (ci := 10) (v := .ref (q 1)) (C := RX10) (T := TX10) (N := 13) hx hb hts (fun _ h => List.mem_cons_of_mem _ (List.mem_append_left _ (List.mem_append_left _ (List.mem_append_left _ (List.mem_append_left _ (List.mem_append_left _ (List.mem_append_left _ (List.mem_append_right _ h)))))))) hown hK hw.1 0 rfl rfl 1 (by decide) (hts (.fieldLink RX10 19 "EggThrones" "laid" "LEggThrones$Table;") (List.mem_of_getElem? (i := 1) rfl)) (fun _ h9 => h9) rfl dX10_told_113 ?_
    refine va_getN (D := D) (ci := 8) (v := .int (zI (σ.1 5))) (C := RX8) (T := TX8) (N := 10) hx hb hts (fun _ h => List.mem_cons_of_mem _ (List.mem_append_left _ (List.mem_append_left _ (List.mem_append_left _ (List.mem_append_left _ (List.mem_append_left _ (List.mem_append_right _ h))))))) hown hK hw.1 1 rfl rfl 3 (by decide) (va_Nw.use rfl (hN (.fieldLinkNest "EggThrones" 127 "EggThrones$Table" "eggs" "I" "EggThrones") (by decide +kernel))) (fun _ h9 => h9) rfl dX10_told_116 ?_
    cases hf
    exact hret H locs ls 119 dX10_told_119 hw
  rw [if_neg c1_3] at hf
  by_cases c1_4 : x1 = 4
  · rw [if_pos c1_4] at hf
    refine lv_tableIn (off := 119) (tgt := 120) hx hb dX10_told_1 (by rw [zI_toInt hg1, c1_4]; decide) (by rw [zI_toInt hg1, c1_4]; decide) (by rw [zI_toInt hg1, c1_4]; rfl) (by decide) ?_
    refine lv_aload_n hx hb dX10_told_120 rfl (lv_at hl 0 rfl) ?_
    refine va_get (D := D) (ci := 10) (v := .ref (q 1)) (C := RX10) (T := TX10) (N := 13) hx hb hts (fun _ h => List.mem_cons_of_mem _ (List.mem_append_left _ (List.mem_append_left _ (List.mem_append_left _ (List.mem_append_left _ (List.mem_append_left _ (List.mem_append_left _ (List.mem_append_right _ h)))))))) hown hK hw.1 0 rfl rfl 1 (by decide) (hts (.fieldLink RX10 19 "EggThrones" "laid" "LEggThrones$Table;") (List.mem_of_getElem? (i := 1) rfl)) (fun _ h9 => h9) rfl dX10_told_121 ?_
    refine va_getN (D := D) (ci := 8) (v := .int (zI (σ.1 6))) (C := RX8) (T := TX8) (N := 10) hx hb hts (fun _ h => List.mem_cons_of_mem _ (List.mem_append_left _ (List.mem_append_left _ (List.mem_append_left _ (List.mem_append_left _ (List.mem_append_left _ (List.mem_append_right _ h))))))) hown hK hw.1 1 rfl rfl 4 (by decide) (va_Nw.use rfl (hN (.fieldLinkNest "EggThrones" 139 "EggThrones$Table" "eaters" "I" "EggThrones") (by decide +kernel))) (fun _ h9 => h9) rfl dX10_told_124 ?_
    cases hf
    exact hret H locs ls 127 dX10_told_127 hw
  rw [if_neg c1_4] at hf
  by_cases c1_5 : x1 = 5
  · rw [if_pos c1_5] at hf
    refine lv_tableIn (off := 127) (tgt := 128) hx hb dX10_told_1 (by rw [zI_toInt hg1, c1_5]; decide) (by rw [zI_toInt hg1, c1_5]; decide) (by rw [zI_toInt hg1, c1_5]; rfl) (by decide) ?_
    refine lv_aload_n hx hb dX10_told_128 rfl (lv_at hl 0 rfl) ?_
    refine va_get (D := D) (ci := 10) (v := .ref (q 7)) (C := RX10) (T := TX10) (N := 13) hx hb hts (fun _ h => List.mem_cons_of_mem _ (List.mem_append_left _ (List.mem_append_left _ (List.mem_append_left _ (List.mem_append_left _ (List.mem_append_left _ (List.mem_append_left _ (List.mem_append_right _ h)))))))) hown hK hw.1 0 rfl rfl 0 (by decide) (hts (.fieldLink RX10 13 "EggThrones" "text" "LEggThrones$Text;") (List.mem_of_getElem? (i := 3) rfl)) (fun _ h9 => h9) rfl dX10_told_129 ?_
    obtain ⟨r132, h132, hf⟩ := bd_s hf
    replace hf := bt_s hf
    refine gVi (As := []) (rest := []) C hw (tX9_length h132) (cwV 0 hts gX10_told_X9_length rfl rfl rfl (by decide +kernel) ⟨Nat.le_of_ble_eq_true rfl, Nat.le_of_ble_eq_true rfl⟩) 9 7 rfl rfl rfl hl.1 rfl (Nat.le_of_ble_eq_true rfl) dX10_told_132 (fun H locs hw => ?_)
    cases hf
    exact hret H locs ls 135 dX10_told_135 hw
  rw [if_neg c1_5] at hf
  by_cases c1_6 : x1 = 6
  · rw [if_pos c1_6] at hf
    refine lv_tableIn (off := 135) (tgt := 136) hx hb dX10_told_1 (by rw [zI_toInt hg1, c1_6]; decide) (by rw [zI_toInt hg1, c1_6]; decide) (by rw [zI_toInt hg1, c1_6]; rfl) (by decide) ?_
    refine lv_aload_n hx hb dX10_told_136 rfl (lv_at hl 0 rfl) ?_
    refine va_get (D := D) (ci := 10) (v := .ref (q 15)) (C := RX10) (T := TX10) (N := 13) hx hb hts (fun _ h => List.mem_cons_of_mem _ (List.mem_append_left _ (List.mem_append_left _ (List.mem_append_left _ (List.mem_append_left _ (List.mem_append_left _ (List.mem_append_left _ (List.mem_append_right _ h)))))))) hown hK hw.1 0 rfl rfl 3 (by decide) (hts (.fieldLink RX10 31 "EggThrones" "now" "LEggThrones$Morning;") (List.mem_of_getElem? (i := 2) rfl)) (fun _ h9 => h9) rfl dX10_told_137 ?_
    refine va_getN (D := D) (ci := 4) (v := .int (zI (σ.1 19))) (C := RX4) (T := TX4) (N := 9) hx hb hts (fun _ h => List.mem_cons_of_mem _ (List.mem_append_left _ (List.mem_append_left _ (List.mem_append_left _ (List.mem_append_left _ (List.mem_append_right _ h)))))) hown hK hw.1 15 rfl rfl 6 (by decide) (va_Nw.use rfl (hN (.fieldLinkNest "EggThrones" 142 "EggThrones$Morning" "minutes" "I" "EggThrones") (by decide +kernel))) (fun _ h9 => h9) rfl dX10_told_140 ?_
    cases hf
    exact hret H locs ls 143 dX10_told_143 hw
  rw [if_neg c1_6] at hf
  by_cases c1_7 : x1 = 7
  · rw [if_pos c1_7] at hf
    refine lv_tableIn (off := 143) (tgt := 144) hx hb dX10_told_1 (by rw [zI_toInt hg1, c1_7]; decide) (by rw [zI_toInt hg1, c1_7]; decide) (by rw [zI_toInt hg1, c1_7]; rfl) (by decide) ?_
    refine lv_aload_n hx hb dX10_told_144 rfl (lv_at hl 0 rfl) ?_
    refine va_get (D := D) (ci := 10) (v := .ref (q 15)) (C := RX10) (T := TX10) (N := 13) hx hb hts (fun _ h => List.mem_cons_of_mem _ (List.mem_append_left _ (List.mem_append_left _ (List.mem_append_left _ (List.mem_append_left _ (List.mem_append_left _ (List.mem_append_left _ (List.mem_append_right _ h)))))))) hown hK hw.1 0 rfl rfl 3 (by decide) (hts (.fieldLink RX10 31 "EggThrones" "now" "LEggThrones$Morning;") (List.mem_of_getElem? (i := 2) rfl)) (fun _ h9 => h9) rfl dX10_told_145 ?_
    refine va_getN (D := D) (ci := 4) (v := .int (zI (σ.1 16))) (C := RX4) (T := TX4) (N := 9) hx hb hts (fun _ h => List.mem_cons_of_mem _ (List.mem_append_left _ (List.mem_append_left _ (List.mem_append_left _ (List.mem_append_left _ (List.mem_append_right _ h)))))) hown hK hw.1 15 rfl rfl 3 (by decide) (va_Nw.use rfl (hN (.fieldLinkNest "EggThrones" 145 "EggThrones$Morning" "king" "I" "EggThrones") (by decide +kernel))) (fun _ h9 => h9) rfl dX10_told_148 ?_
    cases hf
    exact hret H locs ls 151 dX10_told_151 hw
  rw [if_neg c1_7] at hf
  by_cases c1_8 : x1 = 8
  · rw [if_pos c1_8] at hf
    refine lv_tableIn (off := 151) (tgt := 152) hx hb dX10_told_1 (by rw [zI_toInt hg1, c1_8]; decide) (by rw [zI_toInt hg1, c1_8]; decide) (by rw [zI_toInt hg1, c1_8]; rfl) (by decide) ?_
    refine lv_aload_n hx hb dX10_told_152 rfl (lv_at hl 0 rfl) ?_
    refine va_get (D := D) (ci := 10) (v := .ref (q 15)) (C := RX10) (T := TX10) (N := 13) hx hb hts (fun _ h => List.mem_cons_of_mem _ (List.mem_append_left _ (List.mem_append_left _ (List.mem_append_left _ (List.mem_append_left _ (List.mem_append_left _ (List.mem_append_left _ (List.mem_append_right _ h)))))))) hown hK hw.1 0 rfl rfl 3 (by decide) (hts (.fieldLink RX10 31 "EggThrones" "now" "LEggThrones$Morning;") (List.mem_of_getElem? (i := 2) rfl)) (fun _ h9 => h9) rfl dX10_told_153 ?_
    refine va_getN (D := D) (ci := 4) (v := .int (zI (σ.1 17))) (C := RX4) (T := TX4) (N := 9) hx hb hts (fun _ h => List.mem_cons_of_mem _ (List.mem_append_left _ (List.mem_append_left _ (List.mem_append_left _ (List.mem_append_left _ (List.mem_append_right _ h)))))) hown hK hw.1 15 rfl rfl 4 (by decide) (va_Nw.use rfl (hN (.fieldLinkNest "EggThrones" 148 "EggThrones$Morning" "left" "I" "EggThrones") (by decide +kernel))) (fun _ h9 => h9) rfl dX10_told_156 ?_
    cases hf
    exact hret H locs ls 159 dX10_told_159 hw
  rw [if_neg c1_8] at hf
  by_cases c1_9 : x1 = 9
  · rw [if_pos c1_9] at hf
    refine lv_tableIn (off := 159) (tgt := 160) hx hb dX10_told_1 (by rw [zI_toInt hg1, c1_9]; decide) (by rw [zI_toInt hg1, c1_9]; decide) (by rw [zI_toInt hg1, c1_9]; rfl) (by decide) ?_
    refine lv_aload_n hx hb dX10_told_160 rfl (lv_at hl 0 rfl) ?_
    refine va_get (D := D) (ci := 10) (v := .ref (q 15)) (C := RX10) (T := TX10) (N := 13) hx hb hts (fun _ h => List.mem_cons_of_mem _ (List.mem_append_left _ (List.mem_append_left _ (List.mem_append_left _ (List.mem_append_left _ (List.mem_append_left _ (List.mem_append_left _ (List.mem_append_right _ h)))))))) hown hK hw.1 0 rfl rfl 3 (by decide) (hts (.fieldLink RX10 31 "EggThrones" "now" "LEggThrones$Morning;") (List.mem_of_getElem? (i := 2) rfl)) (fun _ h9 => h9) rfl dX10_told_161 ?_
    refine va_getN (D := D) (ci := 4) (v := .int (zI (σ.1 20))) (C := RX4) (T := TX4) (N := 9) hx hb hts (fun _ h => List.mem_cons_of_mem _ (List.mem_append_left _ (List.mem_append_left _ (List.mem_append_left _ (List.mem_append_left _ (List.mem_append_right _ h)))))) hown hK hw.1 15 rfl rfl 7 (by decide) (va_Nw.use rfl (hN (.fieldLinkNest "EggThrones" 151 "EggThrones$Morning" "reigned" "I" "EggThrones") (by decide +kernel))) (fun _ h9 => h9) rfl dX10_told_164 ?_
    cases hf
    exact hret H locs ls 167 dX10_told_167 hw
  rw [if_neg c1_9] at hf
  by_cases c1_10 : x1 = 10
  · rw [if_pos c1_10] at hf
    refine lv_tableIn (off := 167) (tgt := 168) hx hb dX10_told_1 (by rw [zI_toInt hg1, c1_10]; decide) (by rw [zI_toInt hg1, c1_10]; decide) (by rw [zI_toInt hg1, c1_10]; rfl) (by decide) ?_
    refine lv_aload_n hx hb dX10_told_168 rfl (lv_at hl 0 rfl) ?_
    refine va_get (D := D) (ci := 10) (v := .ref (q 15)) (C := RX10) (T := TX10) (N := 13) hx hb hts (fun _ h => List.mem_cons_of_mem _ (List.mem_append_left _ (List.mem_append_left _ (List.mem_append_left _ (List.mem_append_left _ (List.mem_append_left _ (List.mem_append_left _ (List.mem_append_right _ h)))))))) hown hK hw.1 0 rfl rfl 3 (by decide) (hts (.fieldLink RX10 31 "EggThrones" "now" "LEggThrones$Morning;") (List.mem_of_getElem? (i := 2) rfl)) (fun _ h9 => h9) rfl dX10_told_169 ?_
    refine va_getN (D := D) (ci := 4) (v := .int (zI (σ.1 21))) (C := RX4) (T := TX4) (N := 9) hx hb hts (fun _ h => List.mem_cons_of_mem _ (List.mem_append_left _ (List.mem_append_left _ (List.mem_append_left _ (List.mem_append_left _ (List.mem_append_right _ h)))))) hown hK hw.1 15 rfl rfl 8 (by decide) (va_Nw.use rfl (hN (.fieldLinkNest "EggThrones" 154 "EggThrones$Morning" "scraped" "I" "EggThrones") (by decide +kernel))) (fun _ h9 => h9) rfl dX10_told_172 ?_
    cases hf
    exact hret H locs ls 175 dX10_told_175 hw
  rw [if_neg c1_10] at hf
  by_cases c1_11 : x1 = 11
  · rw [if_pos c1_11] at hf
    refine lv_tableIn (off := 175) (tgt := 176) hx hb dX10_told_1 (by rw [zI_toInt hg1, c1_11]; decide) (by rw [zI_toInt hg1, c1_11]; decide) (by rw [zI_toInt hg1, c1_11]; rfl) (by decide) ?_
    refine lv_aload_n hx hb dX10_told_176 rfl (lv_at hl 0 rfl) ?_
    refine va_get (D := D) (ci := 10) (v := .ref (q 15)) (C := RX10) (T := TX10) (N := 13) hx hb hts (fun _ h => List.mem_cons_of_mem _ (List.mem_append_left _ (List.mem_append_left _ (List.mem_append_left _ (List.mem_append_left _ (List.mem_append_left _ (List.mem_append_left _ (List.mem_append_right _ h)))))))) hown hK hw.1 0 rfl rfl 3 (by decide) (hts (.fieldLink RX10 31 "EggThrones" "now" "LEggThrones$Morning;") (List.mem_of_getElem? (i := 2) rfl)) (fun _ h9 => h9) rfl dX10_told_177 ?_
    refine lv_iconst (v := zI 1) hx hb dX10_told_180 rfl ?_
    obtain ⟨r181, h181, hf⟩ := bd_s hf
    replace hf := bt_s hf
    refine gVi (As := [.int (zI 1)]) (rest := []) C hw (tX4_setThatIs h181) (cwV 1 hts gX10_told_X4_setThatIs rfl rfl rfl (by decide +kernel) ⟨Nat.le_of_ble_eq_true rfl, Nat.le_of_ble_eq_true rfl⟩) 4 15 rfl rfl rfl hl.1 rfl (Nat.le_of_ble_eq_true rfl) dX10_told_181 (fun H locs hw => ?_)
    cases hf
    exact hret H locs ls 184 dX10_told_184 hw
  rw [if_neg c1_11] at hf
  by_cases c1_12 : x1 = 12
  · rw [if_pos c1_12] at hf
    refine lv_tableIn (off := 184) (tgt := 185) hx hb dX10_told_1 (by rw [zI_toInt hg1, c1_12]; decide) (by rw [zI_toInt hg1, c1_12]; decide) (by rw [zI_toInt hg1, c1_12]; rfl) (by decide) ?_
    refine lv_aload_n hx hb dX10_told_185 rfl (lv_at hl 0 rfl) ?_
    refine va_get (D := D) (ci := 10) (v := .ref (q 15)) (C := RX10) (T := TX10) (N := 13) hx hb hts (fun _ h => List.mem_cons_of_mem _ (List.mem_append_left _ (List.mem_append_left _ (List.mem_append_left _ (List.mem_append_left _ (List.mem_append_left _ (List.mem_append_left _ (List.mem_append_right _ h)))))))) hown hK hw.1 0 rfl rfl 3 (by decide) (hts (.fieldLink RX10 31 "EggThrones" "now" "LEggThrones$Morning;") (List.mem_of_getElem? (i := 2) rfl)) (fun _ h9 => h9) rfl dX10_told_186 ?_
    refine lv_iconst (v := zI 2) hx hb dX10_told_189 rfl ?_
    obtain ⟨r190, h190, hf⟩ := bd_s hf
    replace hf := bt_s hf
    refine gVi (As := [.int (zI 2)]) (rest := []) C hw (tX4_setThatIs h190) (cwV 1 hts gX10_told_X4_setThatIs rfl rfl rfl (by decide +kernel) ⟨Nat.le_of_ble_eq_true rfl, Nat.le_of_ble_eq_true rfl⟩) 4 15 rfl rfl rfl hl.1 rfl (Nat.le_of_ble_eq_true rfl) dX10_told_190 (fun H locs hw => ?_)
    cases hf
    exact hret H locs ls 193 dX10_told_193 hw
  rw [if_neg c1_12] at hf
  by_cases c1_13 : x1 = 13
  · rw [if_pos c1_13] at hf
    refine lv_tableIn (off := 193) (tgt := 194) hx hb dX10_told_1 (by rw [zI_toInt hg1, c1_13]; decide) (by rw [zI_toInt hg1, c1_13]; decide) (by rw [zI_toInt hg1, c1_13]; rfl) (by decide) ?_
    refine lv_aload_n hx hb dX10_told_194 rfl (lv_at hl 0 rfl) ?_
    refine va_get (D := D) (ci := 10) (v := .ref (q 15)) (C := RX10) (T := TX10) (N := 13) hx hb hts (fun _ h => List.mem_cons_of_mem _ (List.mem_append_left _ (List.mem_append_left _ (List.mem_append_left _ (List.mem_append_left _ (List.mem_append_left _ (List.mem_append_left _ (List.mem_append_right _ h)))))))) hown hK hw.1 0 rfl rfl 3 (by decide) (hts (.fieldLink RX10 31 "EggThrones" "now" "LEggThrones$Morning;") (List.mem_of_getElem? (i := 2) rfl)) (fun _ h9 => h9) rfl dX10_told_195 ?_
    obtain ⟨r198, h198, hf⟩ := bd_s hf
    replace hf := bt_s hf
    refine gVi (As := []) (rest := []) C hw (tX4_pretenders h198) (cwV 0 hts gX10_told_X4_pretenders rfl rfl rfl (by decide +kernel) ⟨Nat.le_of_ble_eq_true rfl, Nat.le_of_ble_eq_true rfl⟩) 4 15 rfl rfl rfl hl.1 rfl (Nat.le_of_ble_eq_true rfl) dX10_told_198 (fun H locs hw => ?_)
    cases hf
    exact hret H locs ls 201 dX10_told_201 hw
  rw [if_neg c1_13] at hf
  by_cases c1_14 : x1 = 14
  · rw [if_pos c1_14] at hf
    refine lv_tableIn (off := 201) (tgt := 202) hx hb dX10_told_1 (by rw [zI_toInt hg1, c1_14]; decide) (by rw [zI_toInt hg1, c1_14]; decide) (by rw [zI_toInt hg1, c1_14]; rfl) (by decide) ?_
    refine lv_aload_n hx hb dX10_told_202 rfl (lv_at hl 0 rfl) ?_
    refine va_get (D := D) (ci := 10) (v := .ref (q 15)) (C := RX10) (T := TX10) (N := 13) hx hb hts (fun _ h => List.mem_cons_of_mem _ (List.mem_append_left _ (List.mem_append_left _ (List.mem_append_left _ (List.mem_append_left _ (List.mem_append_left _ (List.mem_append_left _ (List.mem_append_right _ h)))))))) hown hK hw.1 0 rfl rfl 3 (by decide) (hts (.fieldLink RX10 31 "EggThrones" "now" "LEggThrones$Morning;") (List.mem_of_getElem? (i := 2) rfl)) (fun _ h9 => h9) rfl dX10_told_203 ?_
    obtain ⟨r206, h206, hf⟩ := bd_s hf
    replace hf := bt_s hf
    refine gVi (As := []) (rest := []) C hw (tX4_heir h206) (cwV 0 hts gX10_told_X4_heir rfl rfl rfl (by decide +kernel) ⟨Nat.le_of_ble_eq_true rfl, Nat.le_of_ble_eq_true rfl⟩) 4 15 rfl rfl rfl hl.1 rfl (Nat.le_of_ble_eq_true rfl) dX10_told_206 (fun H locs hw => ?_)
    cases hf
    exact hret H locs ls 209 dX10_told_209 hw
  rw [if_neg c1_14] at hf
  by_cases c1_15 : x1 = 15
  · rw [if_pos c1_15] at hf
    refine lv_tableIn (off := 209) (tgt := 210) hx hb dX10_told_1 (by rw [zI_toInt hg1, c1_15]; decide) (by rw [zI_toInt hg1, c1_15]; decide) (by rw [zI_toInt hg1, c1_15]; rfl) (by decide) ?_
    refine lv_aload_n hx hb dX10_told_210 rfl (lv_at hl 0 rfl) ?_
    refine va_get (D := D) (ci := 10) (v := .ref (q 24)) (C := RX10) (T := TX10) (N := 13) hx hb hts (fun _ h => List.mem_cons_of_mem _ (List.mem_append_left _ (List.mem_append_left _ (List.mem_append_left _ (List.mem_append_left _ (List.mem_append_left _ (List.mem_append_left _ (List.mem_append_right _ h)))))))) hown hK hw.1 0 rfl rfl 6 (by decide) (hts (.fieldLink RX10 52 "EggThrones" "clues" "LEggThrones$Clues;") (List.mem_of_getElem? (i := 4) rfl)) (fun _ h9 => h9) rfl dX10_told_211 ?_
    refine va_getN (D := D) (ci := 2) (v := .int (zI (σ.1 24))) (C := RX2) (T := TX2) (N := 3) hx hb hts (fun _ h => List.mem_cons_of_mem _ (List.mem_append_left _ (List.mem_append_left _ (List.mem_append_left _ (List.mem_append_right _ h))))) hown hK hw.1 24 rfl rfl 2 (by decide) (va_Nw.use rfl (hN (.fieldLinkNest "EggThrones" 167 "EggThrones$Clues" "count" "I" "EggThrones") (by decide +kernel))) (fun _ h9 => h9) rfl dX10_told_214 ?_
    cases hf
    exact hret H locs ls 217 dX10_told_217 hw
  rw [if_neg c1_15] at hf
  by_cases c1_16 : x1 = 16
  · rw [if_pos c1_16] at hf
    refine lv_tableIn (off := 217) (tgt := 218) hx hb dX10_told_1 (by rw [zI_toInt hg1, c1_16]; decide) (by rw [zI_toInt hg1, c1_16]; decide) (by rw [zI_toInt hg1, c1_16]; rfl) (by decide) ?_
    refine lv_aload_n hx hb dX10_told_218 rfl (lv_at hl 0 rfl) ?_
    refine va_get (D := D) (ci := 10) (v := .ref (q 27)) (C := RX10) (T := TX10) (N := 13) hx hb hts (fun _ h => List.mem_cons_of_mem _ (List.mem_append_left _ (List.mem_append_left _ (List.mem_append_left _ (List.mem_append_left _ (List.mem_append_left _ (List.mem_append_left _ (List.mem_append_right _ h)))))))) hown hK hw.1 0 rfl rfl 7 (by decide) (hts (.fieldLink RX10 59 "EggThrones" "book" "LEggThrones$Book;") (List.mem_of_getElem? (i := 5) rfl)) (fun _ h9 => h9) rfl dX10_told_219 ?_
    refine va_getN (D := D) (ci := 1) (v := .int (zI (σ.1 25))) (C := RX1) (T := TX1) (N := 3) hx hb hts (fun _ h => List.mem_cons_of_mem _ (List.mem_append_left _ (List.mem_append_left _ (List.mem_append_right _ h)))) hown hK hw.1 27 rfl rfl 2 (by decide) (va_Nw.use rfl (hN (.fieldLinkNest "EggThrones" 170 "EggThrones$Book" "count" "I" "EggThrones") (by decide +kernel))) (fun _ h9 => h9) rfl dX10_told_222 ?_
    cases hf
    exact hret H locs ls 225 dX10_told_225 hw
  rw [if_neg c1_16] at hf
  by_cases c1_17 : x1 = 17
  · rw [if_pos c1_17] at hf
    refine lv_tableIn (off := 225) (tgt := 226) hx hb dX10_told_1 (by rw [zI_toInt hg1, c1_17]; decide) (by rw [zI_toInt hg1, c1_17]; decide) (by rw [zI_toInt hg1, c1_17]; rfl) (by decide) ?_
    refine lv_aload_n hx hb dX10_told_226 rfl (lv_at hl 0 rfl) ?_
    refine va_get (D := D) (ci := 10) (v := .ref (q 18)) (C := RX10) (T := TX10) (N := 13) hx hb hts (fun _ h => List.mem_cons_of_mem _ (List.mem_append_left _ (List.mem_append_left _ (List.mem_append_left _ (List.mem_append_left _ (List.mem_append_left _ (List.mem_append_left _ (List.mem_append_right _ h)))))))) hown hK hw.1 0 rfl rfl 4 (by decide) (hts (.fieldLink RX10 38 "EggThrones" "past" "LEggThrones$Past;") (List.mem_of_getElem? (i := 6) rfl)) (fun _ h9 => h9) rfl dX10_told_227 ?_
    refine va_getN (D := D) (ci := 5) (v := .int (zI (σ.1 23))) (C := RX5) (T := TX5) (N := 3) hx hb hts (fun _ h => List.mem_cons_of_mem _ (List.mem_append_left _ (List.mem_append_right _ h))) hown hK hw.1 18 rfl rfl 2 (by decide) (va_Nw.use rfl (hN (.fieldLinkNest "EggThrones" 171 "EggThrones$Past" "count" "I" "EggThrones") (by decide +kernel))) (fun _ h9 => h9) rfl dX10_told_230 ?_
    cases hf
    exact hret H locs ls 233 dX10_told_233 hw
  rw [if_neg c1_17] at hf
  refine lv_tableOut (tgt := 234) hx hb dX10_told_1 (by rw [zI_toInt hg1]; omega) (by decide) ?_
  refine zv_ldc hx hb (-1000000002) (by decide +kernel) hown (hts (.constant RX10 95 (-1000000002)) (List.mem_of_getElem? (i := 7) rfl)) dX10_told_234 ?_
  cases hf
  exact hret H locs ls 236 dX10_told_236 hw
set_option maxHeartbeats 4000000 in
set_option maxRecDepth 100000 in
theorem tX10_told {l : Launch} {D : va_G} {A : Nat → Prop} {cI cZ : ClassId} {q : Nat → Nat} {σ : St} {x1 : Int} {r : Int} (hf : pX10_told σ x1 = some r) : Met l yX10_told wsX10_told rmX10_told (va_Pc [.ref (q 0), .int (zI x1)] (CX D (TY cI cZ) A (wE q cI cZ σ))) (QI D (TY cI cZ) A (wE q cI cZ σ) (zI r)) 0 0 A := by
  refine opn (cc := cX10_told) (maxL := 2) (ret := (some .int)) (by decide) rfl (Nat.le_of_ble_eq_true rfl) (fun p e s m below meth c C ls hw hl => ?_)
  have hl : lv_has ls 2 [(0, .ref (q 0)), (1, .int (zI x1))] := hl
  rw [pX10_told] at hf
  exact wX10_told_0 C (rtI C) x1 _ _ ls hw (lv_sub hl [0, 1] rfl) hf
abbrev rmX11_king : Room := { frames := 0, cells := 0, slots := 0, locals := 0 }
set_option maxHeartbeats 4000000 in
set_option maxRecDepth 100000 in
theorem wX11_king_2 {p : Program} {l : Launch} {e : Env} {s : State} {m : MethodId} {args : Array Value} {below : List Frame} {meth : Method} {c : Code} {D : va_G} {A : Nat → Prop} {q : Nat → Nat} {cI cZ : ClassId} {Q : State → Prop} {σ : St} {r : Int} (C : Cx p s m args meth c D (TY cI cZ) cX11_king (some .int) 2 wsX11_king RX11) (hret : RtI p l e rmX11_king s m args below meth c D A cX11_king Q (wM q cI cZ σ) (zI r)) :
    ∀ (n : Nat) (x1 : Int) (H : Heap) (locs : List Loc) (ls : Array Slot), Wd D A s (wM q cI cZ σ) H locs → lv_has ls 2 [(0, .ref (q 0)), (1, .int (zI x1))] → pX11_king_2 σ n x1 = some r → W p l e rmX11_king s m args below meth c H locs 0 0 Q (F0 m 2 ls []) := by
  obtain ⟨hx, hb, hr, hml, hown, hts, hlk, hK, hN⟩ := id C
  intro n
  induction n with
  | zero =>
    intro x1 H locs ls hw hl hf
    exact absurd (show (none : Option (Int)) = some r from hf) (by simp)
  | succ n ih =>
    intro x1 H locs ls hw hl hf
    rw [pX11_king_2] at hf
    refine lv_iload_n hx hb dX11_king_2 rfl (lv_at hl 1 rfl) ?_
    refine lv_aload_n hx hb dX11_king_3 rfl (lv_at hl 0 rfl) ?_
    refine va_get (D := D) (ci := 11) (v := .int (zI (σ.1 2))) (C := RX11) (T := TX11) (N := 40) hx hb hts (fun _ h => List.mem_cons_of_mem _ (List.mem_append_right _ h)) hown hK hw.1 0 rfl rfl 2 (by decide) (hts (.fieldLink RX11 93 "EggThronesModel" "eggs" "I") (List.mem_of_getElem? (i := 1) rfl)) (fun _ h9 => h9) rfl dX11_king_4 ?_
    obtain ⟨hg7, hf⟩ := gd_s hf
    refine zv_icmp_ge (tgt := 28) hx hb hg7 dX11_king_7 (by decide) (fun (c7 : (σ.1 2) ≤ x1) => ?_) (fun (c7 : ¬ ((σ.1 2) ≤ x1)) => ?_)
    · rw [if_pos c7] at hf
      refine lv_iconst (v := zI (-1)) hx hb dX11_king_28 rfl ?_
      cases hf
      exact hret H locs ls 29 dX11_king_29 hw
    · rw [if_neg c7] at hf
      refine lv_aload_n hx hb dX11_king_10 rfl (lv_at hl 0 rfl) ?_
      refine va_get (D := D) (ci := 11) (v := .ref (q 6)) (C := RX11) (T := TX11) (N := 40) hx hb hts (fun _ h => List.mem_cons_of_mem _ (List.mem_append_right _ h)) hown hK hw.1 0 rfl rfl 9 (by decide) (hts (.fieldLink RX11 25 "EggThronesModel" "now" "[I") (List.mem_of_getElem? (i := 2) rfl)) (fun _ h9 => h9) rfl dX11_king_11 ?_
      refine lv_iload_n hx hb dX11_king_14 rfl (lv_at hl 1 rfl) ?_
      obtain ⟨hi15, hf⟩ := gd_s hf
      refine zv_iald (D := D) hx hb hK hw.1 6 0 rfl rfl hi15 (by decide) dX11_king_15 ?_
      refine lv_iconst (v := zI 3) hx hb dX11_king_16 rfl ?_
      obtain ⟨hg17, hf⟩ := gd_s hf
      refine zv_icmp_ne (tgt := 22) hx hb ⟨hg17, by decide⟩ dX11_king_17 (by decide) (fun (c17 : ¬ ((σ.2 5 (Int.toNat x1)) = 3)) => ?_) (fun (c17 : (σ.2 5 (Int.toNat x1)) = 3) => ?_)
      · rw [if_neg c17] at hf
        refine lv_iinc (v := zI (x1 + 1)) (lv' := [(1, .int (zI (x1 + 1))), (0, .ref (q 0))]) hx hb dX11_king_22 hl (k := 1) rfl (zI_add _ _) (by decide) rfl (fun ls hl => ?_)
        refine lv_goto (tgt := 2) hx hb dX11_king_25 (by decide) ?_
        exact ih (x1 + 1) H locs ls hw (lv_sub hl [1, 0] rfl) hf
      · rw [if_pos c17] at hf
        refine lv_iload_n hx hb dX11_king_20 rfl (lv_at hl 1 rfl) ?_
        cases hf
        exact hret H locs ls 21 dX11_king_21 hw
set_option maxHeartbeats 4000000 in
set_option maxRecDepth 100000 in
theorem wX11_king_0 {p : Program} {l : Launch} {e : Env} {s : State} {m : MethodId} {args : Array Value} {below : List Frame} {meth : Method} {c : Code} {D : va_G} {A : Nat → Prop} {q : Nat → Nat} {cI cZ : ClassId} {Q : State → Prop} {σ : St} {r : Int} (C : Cx p s m args meth c D (TY cI cZ) cX11_king (some .int) 2 wsX11_king RX11) (hret : RtI p l e rmX11_king s m args below meth c D A cX11_king Q (wM q cI cZ σ) (zI r)) :
    ∀ (H : Heap) (locs : List Loc) (ls : Array Slot), Wd D A s (wM q cI cZ σ) H locs → lv_has ls 2 [(0, .ref (q 0))] → pX11_king_0 σ = some r → W p l e rmX11_king s m args below meth c H locs 0 0 Q (F0 m 0 ls []) := by
  obtain ⟨hx, hb, hr, hml, hown, hts, hlk, hK, hN⟩ := id C
  intro H locs ls hw hl hf
  rw [pX11_king_0] at hf
  refine lv_iconst (v := zI 0) hx hb dX11_king_0 rfl ?_
  refine lv_istore_n (lv' := [(1, .int (zI 0)), (0, .ref (q 0))]) hx hb dX11_king_1 rfl hl (by decide) rfl (fun ls hl => ?_)
  exact wX11_king_2 C hret FU 0 H locs ls hw (lv_sub hl [1, 0] rfl) hf
set_option maxHeartbeats 4000000 in
set_option maxRecDepth 100000 in
theorem tX11_king {l : Launch} {D : va_G} {A : Nat → Prop} {cI cZ : ClassId} {q : Nat → Nat} {σ : St} {r : Int} (hf : pX11_king σ = some r) : Met l yX11_king wsX11_king rmX11_king (va_Pc [.ref (q 0)] (CX D (TY cI cZ) A (wM q cI cZ σ))) (QI D (TY cI cZ) A (wM q cI cZ σ) (zI r)) 0 0 A := by
  refine opn (cc := cX11_king) (maxL := 2) (ret := (some .int)) (by decide) rfl (Nat.le_of_ble_eq_true rfl) (fun p e s m below meth c C ls hw hl => ?_)
  have hl : lv_has ls 2 [(0, .ref (q 0))] := hl
  rw [pX11_king] at hf
  exact wX11_king_0 C (rtI C) _ _ ls hw (lv_sub hl [0] rfl) hf
abbrev rmX11_allThat : Room := { frames := 0, cells := 0, slots := 0, locals := 0 }
set_option maxHeartbeats 4000000 in
set_option maxRecDepth 100000 in
theorem wX11_allThat_30 {p : Program} {l : Launch} {e : Env} {s : State} {m : MethodId} {args : Array Value} {below : List Frame} {meth : Method} {c : Code} {D : va_G} {A : Nat → Prop} {q : Nat → Nat} {cI cZ : ClassId} {Q : State → Prop} {σ : St} {r : Int} (C : Cx p s m args meth c D (TY cI cZ) cX11_allThat (some .int) 4 wsX11_allThat RX11) (hret : RtI p l e rmX11_allThat s m args below meth c D A cX11_allThat Q (wM q cI cZ σ) (zI r)) (k4 : Int → Int → Int → Option (Int)) (hk4 : ∀ (x1 : Int) (x2 : Int) (x3 : Int) (H : Heap) (locs : List Loc) (ls : Array Slot), Wd D A s (wM q cI cZ σ) H locs → lv_has ls 4 [(0, .ref (q 0)), (1, .int (zI x1)), (2, .int (zI x2)), (3, .int (zI x3))] → k4 x1 x2 x3 = some r → W p l e rmX11_allThat s m args below meth c H locs 0 0 Q (F0 m 4 ls [])) :
    ∀ (x1 : Int) (x3 : Int) (t0 : Int) (t1 : Int) (H : Heap) (locs : List Loc) (ls : Array Slot), Wd D A s (wM q cI cZ σ) H locs → lv_has ls 4 [(0, .ref (q 0)), (1, .int (zI x1)), (3, .int (zI x3))] → pX11_allThat_30 k4 σ x1 x3 t0 t1 = some r → W p l e rmX11_allThat s m args below meth c H locs 0 0 Q (F0 m 30 ls [.int (zI t1), .int (zI t0)]) := by
  obtain ⟨hx, hb, hr, hml, hown, hts, hlk, hK, hN⟩ := id C
  intro x1 x3 t0 t1 H locs ls hw hl hf
  rw [pX11_allThat_30] at hf
  refine zv_ior hx hb dX11_allThat_30 ?_
  refine lv_istore_n (lv' := [(2, .int (zI (zOr t0 t1))), (0, .ref (q 0)), (1, .int (zI x1)), (3, .int (zI x3))]) hx hb dX11_allThat_31 rfl hl (by decide) rfl (fun ls hl => ?_)
  refine lv_iinc (v := zI (x3 + 1)) (lv' := [(3, .int (zI (x3 + 1))), (2, .int (zI (zOr t0 t1))), (0, .ref (q 0)), (1, .int (zI x1))]) hx hb dX11_allThat_32 hl (k := 3) rfl (zI_add _ _) (by decide) rfl (fun ls hl => ?_)
  refine lv_goto (tgt := 4) hx hb dX11_allThat_35 (by decide) ?_
  exact hk4 x1 (zOr t0 t1) (x3 + 1) H locs ls hw (lv_sub hl [2, 3, 1, 0] rfl) hf
set_option maxHeartbeats 4000000 in
set_option maxRecDepth 100000 in
theorem wX11_allThat_4 {p : Program} {l : Launch} {e : Env} {s : State} {m : MethodId} {args : Array Value} {below : List Frame} {meth : Method} {c : Code} {D : va_G} {A : Nat → Prop} {q : Nat → Nat} {cI cZ : ClassId} {Q : State → Prop} {σ : St} {r : Int} (C : Cx p s m args meth c D (TY cI cZ) cX11_allThat (some .int) 4 wsX11_allThat RX11) (hret : RtI p l e rmX11_allThat s m args below meth c D A cX11_allThat Q (wM q cI cZ σ) (zI r)) :
    ∀ (n : Nat) (x1 : Int) (x2 : Int) (x3 : Int) (H : Heap) (locs : List Loc) (ls : Array Slot), Wd D A s (wM q cI cZ σ) H locs → lv_has ls 4 [(0, .ref (q 0)), (1, .int (zI x1)), (2, .int (zI x2)), (3, .int (zI x3))] → pX11_allThat_4 σ n x1 x2 x3 = some r → W p l e rmX11_allThat s m args below meth c H locs 0 0 Q (F0 m 4 ls []) := by
  obtain ⟨hx, hb, hr, hml, hown, hts, hlk, hK, hN⟩ := id C
  intro n
  induction n with
  | zero =>
    intro x1 x2 x3 H locs ls hw hl hf
    exact absurd (show (none : Option (Int)) = some r from hf) (by simp)
  | succ n ih =>
    intro x1 x2 x3 H locs ls hw hl hf
    rw [pX11_allThat_4] at hf
    refine lv_iload_n hx hb dX11_allThat_4 rfl (lv_at hl 3 rfl) ?_
    refine lv_aload_n hx hb dX11_allThat_5 rfl (lv_at hl 0 rfl) ?_
    refine va_get (D := D) (ci := 11) (v := .int (zI (σ.1 2))) (C := RX11) (T := TX11) (N := 40) hx hb hts (fun _ h => List.mem_cons_of_mem _ (List.mem_append_right _ h)) hown hK hw.1 0 rfl rfl 2 (by decide) (hts (.fieldLink RX11 93 "EggThronesModel" "eggs" "I") (List.mem_of_getElem? (i := 1) rfl)) (fun _ h9 => h9) rfl dX11_allThat_6 ?_
    obtain ⟨hg9, hf⟩ := gd_s hf
    refine zv_icmp_ge (tgt := 38) hx hb hg9 dX11_allThat_9 (by decide) (fun (c9 : (σ.1 2) ≤ x3) => ?_) (fun (c9 : ¬ ((σ.1 2) ≤ x3)) => ?_)
    · rw [if_pos c9] at hf
      refine lv_iload_n hx hb dX11_allThat_38 rfl (lv_at hl 2 rfl) ?_
      cases hf
      exact hret H locs ls 39 dX11_allThat_39 hw
    · rw [if_neg c9] at hf
      refine lv_iload_n hx hb dX11_allThat_12 rfl (lv_at hl 2 rfl) ?_
      refine lv_aload_n hx hb dX11_allThat_13 rfl (lv_at hl 0 rfl) ?_
      refine va_get (D := D) (ci := 11) (v := .ref (q 6)) (C := RX11) (T := TX11) (N := 40) hx hb hts (fun _ h => List.mem_cons_of_mem _ (List.mem_append_right _ h)) hown hK hw.1 0 rfl rfl 9 (by decide) (hts (.fieldLink RX11 25 "EggThronesModel" "now" "[I") (List.mem_of_getElem? (i := 2) rfl)) (fun _ h9 => h9) rfl dX11_allThat_14 ?_
      refine lv_iload_n hx hb dX11_allThat_17 rfl (lv_at hl 3 rfl) ?_
      obtain ⟨hi18, hf⟩ := gd_s hf
      refine zv_iald (D := D) hx hb hK hw.1 6 0 rfl rfl hi18 (by decide) dX11_allThat_18 ?_
      refine lv_iload_n hx hb dX11_allThat_19 rfl (lv_at hl 1 rfl) ?_
      obtain ⟨hg20, hf⟩ := gd_s hf
      refine zv_icmp_ne (tgt := 29) hx hb hg20 dX11_allThat_20 (by decide) (fun (c20 : ¬ ((σ.2 5 (Int.toNat x3)) = x1)) => ?_) (fun (c20 : (σ.2 5 (Int.toNat x3)) = x1) => ?_)
      · rw [if_neg c20] at hf
        refine lv_iconst (v := zI 0) hx hb dX11_allThat_29 rfl ?_
        exact wX11_allThat_30 C hret _ ih x1 x3 x2 0 H locs ls hw (lv_sub hl [0, 1, 3] rfl) hf
      · rw [if_pos c20] at hf
        refine lv_iconst (v := zI 1) hx hb dX11_allThat_23 rfl ?_
        refine lv_iload_n hx hb dX11_allThat_24 rfl (lv_at hl 3 rfl) ?_
        refine zv_ishl hx hb dX11_allThat_25 ?_
        refine lv_goto (tgt := 30) hx hb dX11_allThat_26 (by decide) ?_
        exact wX11_allThat_30 C hret _ ih x1 x3 x2 (zShl 1 x3) H locs ls hw (lv_sub hl [0, 1, 3] rfl) hf
set_option maxHeartbeats 4000000 in
set_option maxRecDepth 100000 in
theorem wX11_allThat_0 {p : Program} {l : Launch} {e : Env} {s : State} {m : MethodId} {args : Array Value} {below : List Frame} {meth : Method} {c : Code} {D : va_G} {A : Nat → Prop} {q : Nat → Nat} {cI cZ : ClassId} {Q : State → Prop} {σ : St} {r : Int} (C : Cx p s m args meth c D (TY cI cZ) cX11_allThat (some .int) 4 wsX11_allThat RX11) (hret : RtI p l e rmX11_allThat s m args below meth c D A cX11_allThat Q (wM q cI cZ σ) (zI r)) :
    ∀ (x1 : Int) (H : Heap) (locs : List Loc) (ls : Array Slot), Wd D A s (wM q cI cZ σ) H locs → lv_has ls 4 [(0, .ref (q 0)), (1, .int (zI x1))] → pX11_allThat_0 σ x1 = some r → W p l e rmX11_allThat s m args below meth c H locs 0 0 Q (F0 m 0 ls []) := by
  obtain ⟨hx, hb, hr, hml, hown, hts, hlk, hK, hN⟩ := id C
  intro x1 H locs ls hw hl hf
  rw [pX11_allThat_0] at hf
  refine lv_iconst (v := zI 0) hx hb dX11_allThat_0 rfl ?_
  refine lv_istore_n (lv' := [(2, .int (zI 0)), (0, .ref (q 0)), (1, .int (zI x1))]) hx hb dX11_allThat_1 rfl hl (by decide) rfl (fun ls hl => ?_)
  refine lv_iconst (v := zI 0) hx hb dX11_allThat_2 rfl ?_
  refine lv_istore_n (lv' := [(3, .int (zI 0)), (2, .int (zI 0)), (0, .ref (q 0)), (1, .int (zI x1))]) hx hb dX11_allThat_3 rfl hl (by decide) rfl (fun ls hl => ?_)
  exact wX11_allThat_4 C hret FU x1 0 0 H locs ls hw (lv_sub hl [2, 3, 1, 0] rfl) hf
set_option maxHeartbeats 4000000 in
set_option maxRecDepth 100000 in
theorem tX11_allThat {l : Launch} {D : va_G} {A : Nat → Prop} {cI cZ : ClassId} {q : Nat → Nat} {σ : St} {x1 : Int} {r : Int} (hf : pX11_allThat σ x1 = some r) : Met l yX11_allThat wsX11_allThat rmX11_allThat (va_Pc [.ref (q 0), .int (zI x1)] (CX D (TY cI cZ) A (wM q cI cZ σ))) (QI D (TY cI cZ) A (wM q cI cZ σ) (zI r)) 0 0 A := by
  refine opn (cc := cX11_allThat) (maxL := 4) (ret := (some .int)) (by decide) rfl (Nat.le_of_ble_eq_true rfl) (fun p e s m below meth c C ls hw hl => ?_)
  have hl : lv_has ls 4 [(0, .ref (q 0)), (1, .int (zI x1))] := hl
  rw [pX11_allThat] at hf
  exact wX11_allThat_0 C (rtI C) x1 _ _ ls hw (lv_sub hl [0, 1] rfl) hf
abbrev rmX11_hardBy : Room := { frames := 0, cells := 0, slots := 0, locals := 0 }
set_option maxHeartbeats 4000000 in
set_option maxRecDepth 100000 in
theorem wX11_hardBy_0 {p : Program} {l : Launch} {e : Env} {s : State} {m : MethodId} {args : Array Value} {below : List Frame} {meth : Method} {c : Code} {D : va_G} {A : Nat → Prop} {q : Nat → Nat} {cI cZ : ClassId} {Q : State → Prop} {σ : St} {r : Int} (C : Cx p s m args meth c D (TY cI cZ) cX11_hardBy (some .int) 4 wsX11_hardBy RX11) (hret : RtI p l e rmX11_hardBy s m args below meth c D A cX11_hardBy Q (wM q cI cZ σ) (zI r)) :
    ∀ (x1 : Int) (x2 : Int) (H : Heap) (locs : List Loc) (ls : Array Slot), Wd D A s (wM q cI cZ σ) H locs → lv_has ls 4 [(0, .ref (q 0)), (1, .int (zI x1)), (2, .int (zI x2))] → pX11_hardBy_0 σ x1 x2 = some r → W p l e rmX11_hardBy s m args below meth c H locs 0 0 Q (F0 m 0 ls []) := by
  obtain ⟨hx, hb, hr, hml, hown, hts, hlk, hK, hN⟩ := id C
  intro x1 x2 H locs ls hw hl hf
  rw [pX11_hardBy_0] at hf
  refine lv_bipush (v := zI 10) hx hb dX11_hardBy_0 (by decide +kernel) ?_
  refine lv_iload_n hx hb dX11_hardBy_2 rfl (lv_at hl 2 rfl) ?_
  refine zv_imul hx hb dX11_hardBy_3 ?_
  refine lv_iconst (v := zI 5) hx hb dX11_hardBy_4 rfl ?_
  refine lv_aload_n hx hb dX11_hardBy_5 rfl (lv_at hl 0 rfl) ?_
  refine va_get (D := D) (ci := 11) (v := .ref (q 2)) (C := RX11) (T := TX11) (N := 40) hx hb hts (fun _ h => List.mem_cons_of_mem _ (List.mem_append_right _ h)) hown hK hw.1 0 rfl rfl 4 (by decide) (hts (.fieldLink RX11 13 "EggThronesModel" "size" "[I") (List.mem_of_getElem? (i := 1) rfl)) (fun _ h9 => h9) rfl dX11_hardBy_6 ?_
  refine lv_iload_n hx hb dX11_hardBy_9 rfl (lv_at hl 1 rfl) ?_
  obtain ⟨hi10, hf⟩ := gd_s hf
  refine zv_iald (D := D) hx hb hK hw.1 2 0 rfl rfl hi10 (by decide) dX11_hardBy_10 ?_
  refine zv_imul hx hb dX11_hardBy_11 ?_
  refine zv_isub hx hb dX11_hardBy_12 ?_
  refine lv_aload_n hx hb dX11_hardBy_13 rfl (lv_at hl 0 rfl) ?_
  refine va_get (D := D) (ci := 11) (v := .ref (q 1)) (C := RX11) (T := TX11) (N := 40) hx hb hts (fun _ h => List.mem_cons_of_mem _ (List.mem_append_right _ h)) hown hK hw.1 0 rfl rfl 3 (by decide) (hts (.fieldLink RX11 7 "EggThronesModel" "age" "[I") (List.mem_of_getElem? (i := 2) rfl)) (fun _ h9 => h9) rfl dX11_hardBy_14 ?_
  refine lv_iload_n hx hb dX11_hardBy_17 rfl (lv_at hl 1 rfl) ?_
  obtain ⟨hi18, hf⟩ := gd_s hf
  refine zv_iald (D := D) hx hb hK hw.1 1 0 rfl rfl hi18 (by decide) dX11_hardBy_18 ?_
  refine lv_iconst (v := zI 3) hx hb dX11_hardBy_19 rfl ?_
  obtain ⟨hz20, hf⟩ := gd_s hf
  refine zv_idiv hx hb hz20 dX11_hardBy_20 ?_
  refine zv_iadd hx hb dX11_hardBy_21 ?_
  refine lv_istore_n (lv' := [(3, .int (zI (((10 * x2) - (5 * (σ.2 1 (Int.toNat x1)))) + ((σ.2 0 (Int.toNat x1)) / 3)))), (0, .ref (q 0)), (1, .int (zI x1)), (2, .int (zI x2))]) hx hb dX11_hardBy_22 rfl hl (by decide) rfl (fun ls hl => ?_)
  refine lv_iload_n hx hb dX11_hardBy_23 rfl (lv_at hl 0 rfl) ?_
  obtain ⟨hg24, hf⟩ := gd_s hf
  refine zv_if_ge (tgt := 31) hx hb hg24 dX11_hardBy_24 (by decide) (fun (c24 : 0 ≤ (((10 * x2) - (5 * (σ.2 1 (Int.toNat x1)))) + ((σ.2 0 (Int.toNat x1)) / 3))) => ?_) (fun (c24 : ¬ (0 ≤ (((10 * x2) - (5 * (σ.2 1 (Int.toNat x1)))) + ((σ.2 0 (Int.toNat x1)) / 3)))) => ?_)
  · rw [if_pos c24] at hf
    refine lv_iload_n hx hb dX11_hardBy_31 rfl (lv_at hl 0 rfl) ?_
    refine lv_bipush (v := zI 99) hx hb dX11_hardBy_32 (by decide +kernel) ?_
    obtain ⟨hg34, hf⟩ := gd_s hf
    refine zv_icmp_ge (tgt := 41) hx hb ⟨hg34, by decide⟩ dX11_hardBy_34 (by decide) (fun (c34 : 99 ≤ (((10 * x2) - (5 * (σ.2 1 (Int.toNat x1)))) + ((σ.2 0 (Int.toNat x1)) / 3))) => ?_) (fun (c34 : ¬ (99 ≤ (((10 * x2) - (5 * (σ.2 1 (Int.toNat x1)))) + ((σ.2 0 (Int.toNat x1)) / 3)))) => ?_)
    · rw [if_pos c34] at hf
      refine lv_bipush (v := zI 99) hx hb dX11_hardBy_41 (by decide +kernel) ?_
      cases hf
      exact hret H locs ls 43 dX11_hardBy_43 hw
    · rw [if_neg c34] at hf
      refine lv_iload_n hx hb dX11_hardBy_37 rfl (lv_at hl 0 rfl) ?_
      refine lv_goto (tgt := 43) hx hb dX11_hardBy_38 (by decide) ?_
      cases hf
      exact hret H locs ls 43 dX11_hardBy_43 hw
  · rw [if_neg c24] at hf
    refine lv_iconst (v := zI 0) hx hb dX11_hardBy_27 rfl ?_
    refine lv_goto (tgt := 43) hx hb dX11_hardBy_28 (by decide) ?_
    cases hf
    exact hret H locs ls 43 dX11_hardBy_43 hw
set_option maxHeartbeats 4000000 in
set_option maxRecDepth 100000 in
theorem tX11_hardBy {l : Launch} {D : va_G} {A : Nat → Prop} {cI cZ : ClassId} {q : Nat → Nat} {σ : St} {x1 : Int} {x2 : Int} {r : Int} (hf : pX11_hardBy σ x1 x2 = some r) : Met l yX11_hardBy wsX11_hardBy rmX11_hardBy (va_Pc [.ref (q 0), .int (zI x1), .int (zI x2)] (CX D (TY cI cZ) A (wM q cI cZ σ))) (QI D (TY cI cZ) A (wM q cI cZ σ) (zI r)) 0 0 A := by
  refine opn (cc := cX11_hardBy) (maxL := 4) (ret := (some .int)) (by decide) rfl (Nat.le_of_ble_eq_true rfl) (fun p e s m below meth c C ls hw hl => ?_)
  have hl : lv_has ls 4 [(0, .ref (q 0)), (1, .int (zI x1)), (2, .int (zI x2))] := hl
  rw [pX11_hardBy] at hf
  exact wX11_hardBy_0 C (rtI C) x1 x2 _ _ ls hw (lv_sub hl [0, 1, 2] rfl) hf
abbrev rmX11_hard : Room := { frames := 1, cells := 0, slots := 0, locals := 23 }
set_option maxHeartbeats 4000000 in
set_option maxRecDepth 100000 in
theorem wX11_hard_0 {p : Program} {l : Launch} {e : Env} {s : State} {m : MethodId} {args : Array Value} {below : List Frame} {meth : Method} {c : Code} {D : va_G} {A : Nat → Prop} {q : Nat → Nat} {cI cZ : ClassId} {Q : State → Prop} {σ : St} {r : Int} (C : Cx p s m args meth c D (TY cI cZ) cX11_hard (some .int) 2 wsX11_hard RX11) (hret : RtI p l e rmX11_hard s m args below meth c D A cX11_hard Q (wM q cI cZ σ) (zI r)) :
    ∀ (x1 : Int) (H : Heap) (locs : List Loc) (ls : Array Slot), Wd D A s (wM q cI cZ σ) H locs → lv_has ls 2 [(0, .ref (q 0)), (1, .int (zI x1))] → pX11_hard_0 σ x1 = some r → W p l e rmX11_hard s m args below meth c H locs 0 0 Q (F0 m 0 ls []) := by
  obtain ⟨hx, hb, hr, hml, hown, hts, hlk, hK, hN⟩ := id C
  intro x1 H locs ls hw hl hf
  rw [pX11_hard_0] at hf
  refine lv_aload_n hx hb dX11_hard_0 rfl (lv_at hl 0 rfl) ?_
  refine lv_iload_n hx hb dX11_hard_1 rfl (lv_at hl 1 rfl) ?_
  refine lv_aload_n hx hb dX11_hard_2 rfl (lv_at hl 0 rfl) ?_
  refine va_get (D := D) (ci := 11) (v := .ref (q 6)) (C := RX11) (T := TX11) (N := 40) hx hb hts (fun _ h => List.mem_cons_of_mem _ (List.mem_append_right _ h)) hown hK hw.1 0 rfl rfl 9 (by decide) (hts (.fieldLink RX11 25 "EggThronesModel" "now" "[I") (List.mem_of_getElem? (i := 1) rfl)) (fun _ h9 => h9) rfl dX11_hard_3 ?_
  refine lv_bipush (v := zI 7) hx hb dX11_hard_6 (by decide +kernel) ?_
  refine lv_iload_n hx hb dX11_hard_8 rfl (lv_at hl 1 rfl) ?_
  refine zv_iadd hx hb dX11_hard_9 ?_
  obtain ⟨hi10, hf⟩ := gd_s hf
  refine zv_iald (D := D) hx hb hK hw.1 6 0 rfl rfl hi10 (by decide) dX11_hard_10 ?_
  obtain ⟨r11, h11, hf⟩ := bd_s hf
  replace hf := bt_s hf
  refine gVi (As := [.int (zI x1), .int (zI (σ.2 5 (Int.toNat (7 + x1))))]) (rest := []) C hw (tX11_hardBy h11) (cwV 2 hts gX11_hard_X11_hardBy rfl rfl rfl (by decide +kernel) ⟨Nat.le_of_ble_eq_true rfl, Nat.le_of_ble_eq_true rfl⟩) 11 0 rfl rfl rfl hl.1 rfl (Nat.le_of_ble_eq_true rfl) dX11_hard_11 (fun H locs hw => ?_)
  cases hf
  exact hret H locs ls 14 dX11_hard_14 hw
set_option maxHeartbeats 4000000 in
set_option maxRecDepth 100000 in
theorem tX11_hard {l : Launch} {D : va_G} {A : Nat → Prop} {cI cZ : ClassId} {q : Nat → Nat} {σ : St} {x1 : Int} {r : Int} (hf : pX11_hard σ x1 = some r) : Met l yX11_hard wsX11_hard rmX11_hard (va_Pc [.ref (q 0), .int (zI x1)] (CX D (TY cI cZ) A (wM q cI cZ σ))) (QI D (TY cI cZ) A (wM q cI cZ σ) (zI r)) 0 0 A := by
  refine opn (cc := cX11_hard) (maxL := 2) (ret := (some .int)) (by decide) rfl (Nat.le_of_ble_eq_true rfl) (fun p e s m below meth c C ls hw hl => ?_)
  have hl : lv_has ls 2 [(0, .ref (q 0)), (1, .int (zI x1))] := hl
  rw [pX11_hard] at hf
  exact wX11_hard_0 C (rtI C) x1 _ _ ls hw (lv_sub hl [0, 1] rfl) hf
abbrev rmX11_pretenders : Room := { frames := 2, cells := 0, slots := 0, locals := 44 }
set_option maxHeartbeats 4000000 in
set_option maxRecDepth 100000 in
theorem wX11_pretenders_38 {p : Program} {l : Launch} {e : Env} {s : State} {m : MethodId} {args : Array Value} {below : List Frame} {meth : Method} {c : Code} {D : va_G} {A : Nat → Prop} {q : Nat → Nat} {cI cZ : ClassId} {Q : State → Prop} {σ : St} {r : Int} (C : Cx p s m args meth c D (TY cI cZ) cX11_pretenders (some .int) 3 wsX11_pretenders RX11) (hret : RtI p l e rmX11_pretenders s m args below meth c D A cX11_pretenders Q (wM q cI cZ σ) (zI r)) (k4 : Int → Int → Option (Int)) (hk4 : ∀ (x1 : Int) (x2 : Int) (H : Heap) (locs : List Loc) (ls : Array Slot), Wd D A s (wM q cI cZ σ) H locs → lv_has ls 3 [(0, .ref (q 0)), (1, .int (zI x1)), (2, .int (zI x2))] → k4 x1 x2 = some r → W p l e rmX11_pretenders s m args below meth c H locs 0 0 Q (F0 m 4 ls [])) :
    ∀ (x2 : Int) (t0 : Int) (t1 : Int) (H : Heap) (locs : List Loc) (ls : Array Slot), Wd D A s (wM q cI cZ σ) H locs → lv_has ls 3 [(0, .ref (q 0)), (2, .int (zI x2))] → pX11_pretenders_38 k4 σ x2 t0 t1 = some r → W p l e rmX11_pretenders s m args below meth c H locs 0 0 Q (F0 m 38 ls [.int (zI t1), .int (zI t0)]) := by
  obtain ⟨hx, hb, hr, hml, hown, hts, hlk, hK, hN⟩ := id C
  intro x2 t0 t1 H locs ls hw hl hf
  rw [pX11_pretenders_38] at hf
  refine zv_ior hx hb dX11_pretenders_38 ?_
  refine lv_istore_n (lv' := [(1, .int (zI (zOr t0 t1))), (0, .ref (q 0)), (2, .int (zI x2))]) hx hb dX11_pretenders_39 rfl hl (by decide) rfl (fun ls hl => ?_)
  refine lv_iinc (v := zI (x2 + 1)) (lv' := [(2, .int (zI (x2 + 1))), (1, .int (zI (zOr t0 t1))), (0, .ref (q 0))]) hx hb dX11_pretenders_40 hl (k := 2) rfl (zI_add _ _) (by decide) rfl (fun ls hl => ?_)
  refine lv_goto (tgt := 4) hx hb dX11_pretenders_43 (by decide) ?_
  exact hk4 (zOr t0 t1) (x2 + 1) H locs ls hw (lv_sub hl [2, 1, 0] rfl) hf
set_option maxHeartbeats 4000000 in
set_option maxRecDepth 100000 in
theorem wX11_pretenders_37 {p : Program} {l : Launch} {e : Env} {s : State} {m : MethodId} {args : Array Value} {below : List Frame} {meth : Method} {c : Code} {D : va_G} {A : Nat → Prop} {q : Nat → Nat} {cI cZ : ClassId} {Q : State → Prop} {σ : St} {r : Int} (C : Cx p s m args meth c D (TY cI cZ) cX11_pretenders (some .int) 3 wsX11_pretenders RX11) (hret : RtI p l e rmX11_pretenders s m args below meth c D A cX11_pretenders Q (wM q cI cZ σ) (zI r)) (k4 : Int → Int → Option (Int)) (hk4 : ∀ (x1 : Int) (x2 : Int) (H : Heap) (locs : List Loc) (ls : Array Slot), Wd D A s (wM q cI cZ σ) H locs → lv_has ls 3 [(0, .ref (q 0)), (1, .int (zI x1)), (2, .int (zI x2))] → k4 x1 x2 = some r → W p l e rmX11_pretenders s m args below meth c H locs 0 0 Q (F0 m 4 ls [])) :
    ∀ (x2 : Int) (t0 : Int) (H : Heap) (locs : List Loc) (ls : Array Slot), Wd D A s (wM q cI cZ σ) H locs → lv_has ls 3 [(0, .ref (q 0)), (2, .int (zI x2))] → pX11_pretenders_37 k4 σ x2 t0 = some r → W p l e rmX11_pretenders s m args below meth c H locs 0 0 Q (F0 m 37 ls [.int (zI t0)]) := by
  obtain ⟨hx, hb, hr, hml, hown, hts, hlk, hK, hN⟩ := id C
  intro x2 t0 H locs ls hw hl hf
  rw [pX11_pretenders_37] at hf
  refine lv_iconst (v := zI 0) hx hb dX11_pretenders_37 rfl ?_
  exact wX11_pretenders_38 C hret _ hk4 x2 t0 0 H locs ls hw (lv_sub hl [0, 1] rfl) hf
set_option maxHeartbeats 4000000 in
set_option maxRecDepth 100000 in
theorem wX11_pretenders_4 {p : Program} {l : Launch} {e : Env} {s : State} {m : MethodId} {args : Array Value} {below : List Frame} {meth : Method} {c : Code} {D : va_G} {A : Nat → Prop} {q : Nat → Nat} {cI cZ : ClassId} {Q : State → Prop} {σ : St} {r : Int} (C : Cx p s m args meth c D (TY cI cZ) cX11_pretenders (some .int) 3 wsX11_pretenders RX11) (hret : RtI p l e rmX11_pretenders s m args below meth c D A cX11_pretenders Q (wM q cI cZ σ) (zI r)) :
    ∀ (n : Nat) (x1 : Int) (x2 : Int) (H : Heap) (locs : List Loc) (ls : Array Slot), Wd D A s (wM q cI cZ σ) H locs → lv_has ls 3 [(0, .ref (q 0)), (1, .int (zI x1)), (2, .int (zI x2))] → pX11_pretenders_4 σ n x1 x2 = some r → W p l e rmX11_pretenders s m args below meth c H locs 0 0 Q (F0 m 4 ls []) := by
  obtain ⟨hx, hb, hr, hml, hown, hts, hlk, hK, hN⟩ := id C
  intro n
  induction n with
  | zero =>
    intro x1 x2 H locs ls hw hl hf
    exact absurd (show (none : Option (Int)) = some r from hf) (by simp)
  | succ n ih =>
    intro x1 x2 H locs ls hw hl hf
    rw [pX11_pretenders_4] at hf
    refine lv_iload_n hx hb dX11_pretenders_4 rfl (lv_at hl 2 rfl) ?_
    refine lv_aload_n hx hb dX11_pretenders_5 rfl (lv_at hl 0 rfl) ?_
    refine va_get (D := D) (ci := 11) (v := .int (zI (σ.1 2))) (C := RX11) (T := TX11) (N := 40) hx hb hts (fun _ h => List.mem_cons_of_mem _ (List.mem_append_right _ h)) hown hK hw.1 0 rfl rfl 2 (by decide) (hts (.fieldLink RX11 93 "EggThronesModel" "eggs" "I") (List.mem_of_getElem? (i := 1) rfl)) (fun _ h9 => h9) rfl dX11_pretenders_6 ?_
    obtain ⟨hg9, hf⟩ := gd_s hf
    refine zv_icmp_ge (tgt := 46) hx hb hg9 dX11_pretenders_9 (by decide) (fun (c9 : (σ.1 2) ≤ x2) => ?_) (fun (c9 : ¬ ((σ.1 2) ≤ x2)) => ?_)
    · rw [if_pos c9] at hf
      refine lv_iload_n hx hb dX11_pretenders_46 rfl (lv_at hl 1 rfl) ?_
      cases hf
      exact hret H locs ls 47 dX11_pretenders_47 hw
    · rw [if_neg c9] at hf
      refine lv_iload_n hx hb dX11_pretenders_12 rfl (lv_at hl 1 rfl) ?_
      refine lv_aload_n hx hb dX11_pretenders_13 rfl (lv_at hl 0 rfl) ?_
      refine va_get (D := D) (ci := 11) (v := .ref (q 6)) (C := RX11) (T := TX11) (N := 40) hx hb hts (fun _ h => List.mem_cons_of_mem _ (List.mem_append_right _ h)) hown hK hw.1 0 rfl rfl 9 (by decide) (hts (.fieldLink RX11 25 "EggThronesModel" "now" "[I") (List.mem_of_getElem? (i := 2) rfl)) (fun _ h9 => h9) rfl dX11_pretenders_14 ?_
      refine lv_iload_n hx hb dX11_pretenders_17 rfl (lv_at hl 2 rfl) ?_
      obtain ⟨hi18, hf⟩ := gd_s hf
      refine zv_iald (D := D) hx hb hK hw.1 6 0 rfl rfl hi18 (by decide) dX11_pretenders_18 ?_
      refine lv_iconst (v := zI 2) hx hb dX11_pretenders_19 rfl ?_
      obtain ⟨hg20, hf⟩ := gd_s hf
      refine zv_icmp_ne (tgt := 37) hx hb ⟨hg20, by decide⟩ dX11_pretenders_20 (by decide) (fun (c20 : ¬ ((σ.2 5 (Int.toNat x2)) = 2)) => ?_) (fun (c20 : (σ.2 5 (Int.toNat x2)) = 2) => ?_)
      · rw [if_neg c20] at hf
        exact wX11_pretenders_37 C hret _ ih x2 x1 H locs ls hw (lv_sub hl [0, 2] rfl) hf
      · rw [if_pos c20] at hf
        refine lv_aload_n hx hb dX11_pretenders_23 rfl (lv_at hl 0 rfl) ?_
        refine lv_iload_n hx hb dX11_pretenders_24 rfl (lv_at hl 2 rfl) ?_
        obtain ⟨r25, h25, hf⟩ := bd_s hf
        replace hf := bt_s hf
        refine gVi (As := [.int (zI x2)]) (rest := [.int (zI x1)]) C hw (tX11_hard h25) (cwV 1 hts gX11_pretenders_X11_hard rfl rfl rfl (by decide +kernel) ⟨Nat.le_of_ble_eq_true rfl, Nat.le_of_ble_eq_true rfl⟩) 11 0 rfl rfl rfl hl.1 rfl (Nat.le_of_ble_eq_true rfl) dX11_pretenders_25 (fun H locs hw => ?_)
        obtain ⟨hg28, hf⟩ := gd_s hf
        refine zv_if_ne (tgt := 37) hx hb hg28 dX11_pretenders_28 (by decide) (fun (c28 : ¬ (r25 = 0)) => ?_) (fun (c28 : r25 = 0) => ?_)
        · rw [if_neg c28] at hf
          exact wX11_pretenders_37 C hret _ ih x2 x1 H locs ls hw (lv_sub hl [0, 2] rfl) hf
        · rw [if_pos c28] at hf
          refine lv_iconst (v := zI 1) hx hb dX11_pretenders_31 rfl ?_
          refine lv_iload_n hx hb dX11_pretenders_32 rfl (lv_at hl 2 rfl) ?_
          refine zv_ishl hx hb dX11_pretenders_33 ?_
          refine lv_goto (tgt := 38) hx hb dX11_pretenders_34 (by decide) ?_
          exact wX11_pretenders_38 C hret _ ih x2 x1 (zShl 1 x2) H locs ls hw (lv_sub hl [0, 2] rfl) hf
set_option maxHeartbeats 4000000 in
set_option maxRecDepth 100000 in
theorem wX11_pretenders_0 {p : Program} {l : Launch} {e : Env} {s : State} {m : MethodId} {args : Array Value} {below : List Frame} {meth : Method} {c : Code} {D : va_G} {A : Nat → Prop} {q : Nat → Nat} {cI cZ : ClassId} {Q : State → Prop} {σ : St} {r : Int} (C : Cx p s m args meth c D (TY cI cZ) cX11_pretenders (some .int) 3 wsX11_pretenders RX11) (hret : RtI p l e rmX11_pretenders s m args below meth c D A cX11_pretenders Q (wM q cI cZ σ) (zI r)) :
    ∀ (H : Heap) (locs : List Loc) (ls : Array Slot), Wd D A s (wM q cI cZ σ) H locs → lv_has ls 3 [(0, .ref (q 0))] → pX11_pretenders_0 σ = some r → W p l e rmX11_pretenders s m args below meth c H locs 0 0 Q (F0 m 0 ls []) := by
  obtain ⟨hx, hb, hr, hml, hown, hts, hlk, hK, hN⟩ := id C
  intro H locs ls hw hl hf
  rw [pX11_pretenders_0] at hf
  refine lv_iconst (v := zI 0) hx hb dX11_pretenders_0 rfl ?_
  refine lv_istore_n (lv' := [(1, .int (zI 0)), (0, .ref (q 0))]) hx hb dX11_pretenders_1 rfl hl (by decide) rfl (fun ls hl => ?_)
  refine lv_iconst (v := zI 0) hx hb dX11_pretenders_2 rfl ?_
  refine lv_istore_n (lv' := [(2, .int (zI 0)), (1, .int (zI 0)), (0, .ref (q 0))]) hx hb dX11_pretenders_3 rfl hl (by decide) rfl (fun ls hl => ?_)
  exact wX11_pretenders_4 C hret FU 0 0 H locs ls hw (lv_sub hl [2, 1, 0] rfl) hf
set_option maxHeartbeats 4000000 in
set_option maxRecDepth 100000 in
theorem tX11_pretenders {l : Launch} {D : va_G} {A : Nat → Prop} {cI cZ : ClassId} {q : Nat → Nat} {σ : St} {r : Int} (hf : pX11_pretenders σ = some r) : Met l yX11_pretenders wsX11_pretenders rmX11_pretenders (va_Pc [.ref (q 0)] (CX D (TY cI cZ) A (wM q cI cZ σ))) (QI D (TY cI cZ) A (wM q cI cZ σ) (zI r)) 0 0 A := by
  refine opn (cc := cX11_pretenders) (maxL := 3) (ret := (some .int)) (by decide) rfl (Nat.le_of_ble_eq_true rfl) (fun p e s m below meth c C ls hw hl => ?_)
  have hl : lv_has ls 3 [(0, .ref (q 0))] := hl
  rw [pX11_pretenders] at hf
  exact wX11_pretenders_0 C (rtI C) _ _ ls hw (lv_sub hl [0] rfl) hf
abbrev rmX11_reignBy : Room := { frames := 1, cells := 0, slots := 0, locals := 23 }
set_option maxHeartbeats 4000000 in
set_option maxRecDepth 100000 in
theorem wX11_reignBy_0 {p : Program} {l : Launch} {e : Env} {s : State} {m : MethodId} {args : Array Value} {below : List Frame} {meth : Method} {c : Code} {D : va_G} {A : Nat → Prop} {q : Nat → Nat} {cI cZ : ClassId} {Q : State → Prop} {σ : St} {r : Int} (C : Cx p s m args meth c D (TY cI cZ) cX11_reignBy (some .int) 3 wsX11_reignBy RX11) (hret : RtI p l e rmX11_reignBy s m args below meth c D A cX11_reignBy Q (wM q cI cZ σ) (zI r)) :
    ∀ (x1 : Int) (x2 : Int) (H : Heap) (locs : List Loc) (ls : Array Slot), Wd D A s (wM q cI cZ σ) H locs → lv_has ls 3 [(0, .ref (q 0)), (1, .int (zI x1)), (2, .int (zI x2))] → pX11_reignBy_0 σ x1 x2 = some r → W p l e rmX11_reignBy s m args below meth c H locs 0 0 Q (F0 m 0 ls []) := by
  obtain ⟨hx, hb, hr, hml, hown, hts, hlk, hK, hN⟩ := id C
  intro x1 x2 H locs ls hw hl hf
  rw [pX11_reignBy_0] at hf
  refine lv_iconst (v := zI 1) hx hb dX11_reignBy_0 rfl ?_
  refine lv_aload_n hx hb dX11_reignBy_1 rfl (lv_at hl 0 rfl) ?_
  refine lv_iload_n hx hb dX11_reignBy_2 rfl (lv_at hl 1 rfl) ?_
  refine lv_iload_n hx hb dX11_reignBy_3 rfl (lv_at hl 2 rfl) ?_
  obtain ⟨r4, h4, hf⟩ := bd_s hf
  replace hf := bt_s hf
  refine gVi (As := [.int (zI x1), .int (zI x2)]) (rest := [.int (zI 1)]) C hw (tX11_hardBy h4) (cwV 2 hts gX11_reignBy_X11_hardBy rfl rfl rfl (by decide +kernel) ⟨Nat.le_of_ble_eq_true rfl, Nat.le_of_ble_eq_true rfl⟩) 11 0 rfl rfl rfl hl.1 rfl (Nat.le_of_ble_eq_true rfl) dX11_reignBy_4 (fun H locs hw => ?_)
  refine lv_bipush (v := zI 10) hx hb dX11_reignBy_7 (by decide +kernel) ?_
  obtain ⟨hz9, hf⟩ := gd_s hf
  refine zv_idiv hx hb hz9 dX11_reignBy_9 ?_
  refine zv_iadd hx hb dX11_reignBy_10 ?_
  refine lv_aload_n hx hb dX11_reignBy_11 rfl (lv_at hl 0 rfl) ?_
  refine va_get (D := D) (ci := 11) (v := .ref (q 2)) (C := RX11) (T := TX11) (N := 40) hx hb hts (fun _ h => List.mem_cons_of_mem _ (List.mem_append_right _ h)) hown hK hw.1 0 rfl rfl 4 (by decide) (hts (.fieldLink RX11 13 "EggThronesModel" "size" "[I") (List.mem_of_getElem? (i := 1) rfl)) (fun _ h9 => h9) rfl dX11_reignBy_12 ?_
  refine lv_iload_n hx hb dX11_reignBy_15 rfl (lv_at hl 1 rfl) ?_
  obtain ⟨hi16, hf⟩ := gd_s hf
  refine zv_iald (D := D) hx hb hK hw.1 2 0 rfl rfl hi16 (by decide) dX11_reignBy_16 ?_
  refine zv_iadd hx hb dX11_reignBy_17 ?_
  cases hf
  exact hret H locs ls 18 dX11_reignBy_18 hw
set_option maxHeartbeats 4000000 in
set_option maxRecDepth 100000 in
theorem tX11_reignBy {l : Launch} {D : va_G} {A : Nat → Prop} {cI cZ : ClassId} {q : Nat → Nat} {σ : St} {x1 : Int} {x2 : Int} {r : Int} (hf : pX11_reignBy σ x1 x2 = some r) : Met l yX11_reignBy wsX11_reignBy rmX11_reignBy (va_Pc [.ref (q 0), .int (zI x1), .int (zI x2)] (CX D (TY cI cZ) A (wM q cI cZ σ))) (QI D (TY cI cZ) A (wM q cI cZ σ) (zI r)) 0 0 A := by
  refine opn (cc := cX11_reignBy) (maxL := 3) (ret := (some .int)) (by decide) rfl (Nat.le_of_ble_eq_true rfl) (fun p e s m below meth c C ls hw hl => ?_)
  have hl : lv_has ls 3 [(0, .ref (q 0)), (1, .int (zI x1)), (2, .int (zI x2))] := hl
  rw [pX11_reignBy] at hf
  exact wX11_reignBy_0 C (rtI C) x1 x2 _ _ ls hw (lv_sub hl [0, 1, 2] rfl) hf
abbrev rmX11_reign : Room := { frames := 2, cells := 0, slots := 0, locals := 45 }
set_option maxHeartbeats 4000000 in
set_option maxRecDepth 100000 in
theorem wX11_reign_0 {p : Program} {l : Launch} {e : Env} {s : State} {m : MethodId} {args : Array Value} {below : List Frame} {meth : Method} {c : Code} {D : va_G} {A : Nat → Prop} {q : Nat → Nat} {cI cZ : ClassId} {Q : State → Prop} {σ : St} {r : Int} (C : Cx p s m args meth c D (TY cI cZ) cX11_reign (some .int) 2 wsX11_reign RX11) (hret : RtI p l e rmX11_reign s m args below meth c D A cX11_reign Q (wM q cI cZ σ) (zI r)) :
    ∀ (x1 : Int) (H : Heap) (locs : List Loc) (ls : Array Slot), Wd D A s (wM q cI cZ σ) H locs → lv_has ls 2 [(0, .ref (q 0)), (1, .int (zI x1))] → pX11_reign_0 σ x1 = some r → W p l e rmX11_reign s m args below meth c H locs 0 0 Q (F0 m 0 ls []) := by
  obtain ⟨hx, hb, hr, hml, hown, hts, hlk, hK, hN⟩ := id C
  intro x1 H locs ls hw hl hf
  rw [pX11_reign_0] at hf
  refine lv_aload_n hx hb dX11_reign_0 rfl (lv_at hl 0 rfl) ?_
  refine lv_iload_n hx hb dX11_reign_1 rfl (lv_at hl 1 rfl) ?_
  refine lv_aload_n hx hb dX11_reign_2 rfl (lv_at hl 0 rfl) ?_
  refine va_get (D := D) (ci := 11) (v := .ref (q 6)) (C := RX11) (T := TX11) (N := 40) hx hb hts (fun _ h => List.mem_cons_of_mem _ (List.mem_append_right _ h)) hown hK hw.1 0 rfl rfl 9 (by decide) (hts (.fieldLink RX11 25 "EggThronesModel" "now" "[I") (List.mem_of_getElem? (i := 1) rfl)) (fun _ h9 => h9) rfl dX11_reign_3 ?_
  refine lv_bipush (v := zI 7) hx hb dX11_reign_6 (by decide +kernel) ?_
  refine lv_iload_n hx hb dX11_reign_8 rfl (lv_at hl 1 rfl) ?_
  refine zv_iadd hx hb dX11_reign_9 ?_
  obtain ⟨hi10, hf⟩ := gd_s hf
  refine zv_iald (D := D) hx hb hK hw.1 6 0 rfl rfl hi10 (by decide) dX11_reign_10 ?_
  obtain ⟨r11, h11, hf⟩ := bd_s hf
  replace hf := bt_s hf
  refine gVi (As := [.int (zI x1), .int (zI (σ.2 5 (Int.toNat (7 + x1))))]) (rest := []) C hw (tX11_reignBy h11) (cwV 2 hts gX11_reign_X11_reignBy rfl rfl rfl (by decide +kernel) ⟨Nat.le_of_ble_eq_true rfl, Nat.le_of_ble_eq_true rfl⟩) 11 0 rfl rfl rfl hl.1 rfl (Nat.le_of_ble_eq_true rfl) dX11_reign_11 (fun H locs hw => ?_)
  cases hf
  exact hret H locs ls 14 dX11_reign_14 hw
set_option maxHeartbeats 4000000 in
set_option maxRecDepth 100000 in
theorem tX11_reign {l : Launch} {D : va_G} {A : Nat → Prop} {cI cZ : ClassId} {q : Nat → Nat} {σ : St} {x1 : Int} {r : Int} (hf : pX11_reign σ x1 = some r) : Met l yX11_reign wsX11_reign rmX11_reign (va_Pc [.ref (q 0), .int (zI x1)] (CX D (TY cI cZ) A (wM q cI cZ σ))) (QI D (TY cI cZ) A (wM q cI cZ σ) (zI r)) 0 0 A := by
  refine opn (cc := cX11_reign) (maxL := 2) (ret := (some .int)) (by decide) rfl (Nat.le_of_ble_eq_true rfl) (fun p e s m below meth c C ls hw hl => ?_)
  have hl : lv_has ls 2 [(0, .ref (q 0)), (1, .int (zI x1))] := hl
  rw [pX11_reign] at hf
  exact wX11_reign_0 C (rtI C) x1 _ _ ls hw (lv_sub hl [0, 1] rfl) hf
abbrev rmX11_heir : Room := { frames := 3, cells := 0, slots := 0, locals := 66 }
set_option maxHeartbeats 4000000 in
set_option maxRecDepth 100000 in
theorem wX11_heir_54 {p : Program} {l : Launch} {e : Env} {s : State} {m : MethodId} {args : Array Value} {below : List Frame} {meth : Method} {c : Code} {D : va_G} {A : Nat → Prop} {q : Nat → Nat} {cI cZ : ClassId} {Q : State → Prop} {σ : St} {r : Int} (C : Cx p s m args meth c D (TY cI cZ) cX11_heir (some .int) 4 wsX11_heir RX11) (hret : RtI p l e rmX11_heir s m args below meth c D A cX11_heir Q (wM q cI cZ σ) (zI r)) (k4 : Int → Int → Option (Int)) (hk4 : ∀ (x1 : Int) (x2 : Int) (H : Heap) (locs : List Loc) (ls : Array Slot), Wd D A s (wM q cI cZ σ) H locs → lv_has ls 4 [(0, .ref (q 0)), (1, .int (zI x1)), (2, .int (zI x2))] → k4 x1 x2 = some r → W p l e rmX11_heir s m args below meth c H locs 0 0 Q (F0 m 4 ls [])) :
    ∀ (x2 : Int) (t0 : Int) (H : Heap) (locs : List Loc) (ls : Array Slot), Wd D A s (wM q cI cZ σ) H locs → lv_has ls 4 [(0, .ref (q 0)), (2, .int (zI x2))] → pX11_heir_54 k4 σ x2 t0 = some r → W p l e rmX11_heir s m args below meth c H locs 0 0 Q (F0 m 54 ls [.int (zI t0)]) := by
  obtain ⟨hx, hb, hr, hml, hown, hts, hlk, hK, hN⟩ := id C
  intro x2 t0 H locs ls hw hl hf
  rw [pX11_heir_54] at hf
  refine lv_istore_n (lv' := [(1, .int (zI t0)), (0, .ref (q 0)), (2, .int (zI x2))]) hx hb dX11_heir_54 rfl hl (by decide) rfl (fun ls hl => ?_)
  refine lv_iinc (v := zI (x2 + 1)) (lv' := [(2, .int (zI (x2 + 1))), (1, .int (zI t0)), (0, .ref (q 0))]) hx hb dX11_heir_55 hl (k := 2) rfl (zI_add _ _) (by decide) rfl (fun ls hl => ?_)
  refine lv_goto (tgt := 4) hx hb dX11_heir_58 (by decide) ?_
  exact hk4 t0 (x2 + 1) H locs ls hw (lv_sub hl [2, 1, 0] rfl) hf
set_option maxHeartbeats 4000000 in
set_option maxRecDepth 100000 in
theorem wX11_heir_53 {p : Program} {l : Launch} {e : Env} {s : State} {m : MethodId} {args : Array Value} {below : List Frame} {meth : Method} {c : Code} {D : va_G} {A : Nat → Prop} {q : Nat → Nat} {cI cZ : ClassId} {Q : State → Prop} {σ : St} {r : Int} (C : Cx p s m args meth c D (TY cI cZ) cX11_heir (some .int) 4 wsX11_heir RX11) (hret : RtI p l e rmX11_heir s m args below meth c D A cX11_heir Q (wM q cI cZ σ) (zI r)) (k4 : Int → Int → Option (Int)) (hk4 : ∀ (x1 : Int) (x2 : Int) (H : Heap) (locs : List Loc) (ls : Array Slot), Wd D A s (wM q cI cZ σ) H locs → lv_has ls 4 [(0, .ref (q 0)), (1, .int (zI x1)), (2, .int (zI x2))] → k4 x1 x2 = some r → W p l e rmX11_heir s m args below meth c H locs 0 0 Q (F0 m 4 ls [])) :
    ∀ (x1 : Int) (x2 : Int) (H : Heap) (locs : List Loc) (ls : Array Slot), Wd D A s (wM q cI cZ σ) H locs → lv_has ls 4 [(0, .ref (q 0)), (1, .int (zI x1)), (2, .int (zI x2))] → pX11_heir_53 k4 σ x1 x2 = some r → W p l e rmX11_heir s m args below meth c H locs 0 0 Q (F0 m 53 ls []) := by
  obtain ⟨hx, hb, hr, hml, hown, hts, hlk, hK, hN⟩ := id C
  intro x1 x2 H locs ls hw hl hf
  rw [pX11_heir_53] at hf
  refine lv_iload_n hx hb dX11_heir_53 rfl (lv_at hl 1 rfl) ?_
  exact wX11_heir_54 C hret _ hk4 x2 x1 H locs ls hw (lv_sub hl [0, 2] rfl) hf
set_option maxHeartbeats 4000000 in
set_option maxRecDepth 100000 in
theorem wX11_heir_34 {p : Program} {l : Launch} {e : Env} {s : State} {m : MethodId} {args : Array Value} {below : List Frame} {meth : Method} {c : Code} {D : va_G} {A : Nat → Prop} {q : Nat → Nat} {cI cZ : ClassId} {Q : State → Prop} {σ : St} {r : Int} (C : Cx p s m args meth c D (TY cI cZ) cX11_heir (some .int) 4 wsX11_heir RX11) (hret : RtI p l e rmX11_heir s m args below meth c D A cX11_heir Q (wM q cI cZ σ) (zI r)) (k4 : Int → Int → Option (Int)) (hk4 : ∀ (x1 : Int) (x2 : Int) (H : Heap) (locs : List Loc) (ls : Array Slot), Wd D A s (wM q cI cZ σ) H locs → lv_has ls 4 [(0, .ref (q 0)), (1, .int (zI x1)), (2, .int (zI x2))] → k4 x1 x2 = some r → W p l e rmX11_heir s m args below meth c H locs 0 0 Q (F0 m 4 ls [])) :
    ∀ (x1 : Int) (x2 : Int) (t0 : Int) (H : Heap) (locs : List Loc) (ls : Array Slot), Wd D A s (wM q cI cZ σ) H locs → lv_has ls 4 [(0, .ref (q 0)), (1, .int (zI x1)), (2, .int (zI x2))] → pX11_heir_34 k4 σ x1 x2 t0 = some r → W p l e rmX11_heir s m args below meth c H locs 0 0 Q (F0 m 34 ls [.int (zI t0)]) := by
  obtain ⟨hx, hb, hr, hml, hown, hts, hlk, hK, hN⟩ := id C
  intro x1 x2 t0 H locs ls hw hl hf
  rw [pX11_heir_34] at hf
  refine lv_istore_n (lv' := [(3, .int (zI t0)), (0, .ref (q 0)), (1, .int (zI x1)), (2, .int (zI x2))]) hx hb dX11_heir_34 rfl hl (by decide) rfl (fun ls hl => ?_)
  refine lv_aload_n hx hb dX11_heir_35 rfl (lv_at hl 1 rfl) ?_
  refine va_get (D := D) (ci := 11) (v := .ref (q 6)) (C := RX11) (T := TX11) (N := 40) hx hb hts (fun _ h => List.mem_cons_of_mem _ (List.mem_append_right _ h)) hown hK hw.1 0 rfl rfl 9 (by decide) (hts (.fieldLink RX11 25 "EggThronesModel" "now" "[I") (List.mem_of_getElem? (i := 2) rfl)) (fun _ h9 => h9) rfl dX11_heir_36 ?_
  refine lv_iload_n hx hb dX11_heir_39 rfl (lv_at hl 3 rfl) ?_
  obtain ⟨hi40, hf⟩ := gd_s hf
  refine zv_iald (D := D) hx hb hK hw.1 6 0 rfl rfl hi40 (by decide) dX11_heir_40 ?_
  refine lv_iconst (v := zI 2) hx hb dX11_heir_41 rfl ?_
  obtain ⟨hg42, hf⟩ := gd_s hf
  refine zv_icmp_ne (tgt := 53) hx hb ⟨hg42, by decide⟩ dX11_heir_42 (by decide) (fun (c42 : ¬ ((σ.2 5 (Int.toNat x2)) = 2)) => ?_) (fun (c42 : (σ.2 5 (Int.toNat x2)) = 2) => ?_)
  · rw [if_neg c42] at hf
    exact wX11_heir_53 C hret _ hk4 x1 x2 H locs ls hw (lv_sub hl [1, 2, 3] rfl) hf
  · rw [if_pos c42] at hf
    refine lv_iload_n hx hb dX11_heir_45 rfl (lv_at hl 0 rfl) ?_
    obtain ⟨hg46, hf⟩ := gd_s hf
    refine zv_if_eq (tgt := 53) hx hb hg46 dX11_heir_46 (by decide) (fun (c46 : t0 = 0) => ?_) (fun (c46 : ¬ (t0 = 0)) => ?_)
    · rw [if_pos c46] at hf
      exact wX11_heir_53 C hret _ hk4 x1 x2 H locs ls hw (lv_sub hl [1, 2, 3] rfl) hf
    · rw [if_neg c46] at hf
      refine lv_iload_n hx hb dX11_heir_49 rfl (lv_at hl 3 rfl) ?_
      refine lv_goto (tgt := 54) hx hb dX11_heir_50 (by decide) ?_
      exact wX11_heir_54 C hret _ hk4 x2 x2 H locs ls hw (lv_sub hl [1, 3] rfl) hf
set_option maxHeartbeats 4000000 in
set_option maxRecDepth 100000 in
theorem wX11_heir_29 {p : Program} {l : Launch} {e : Env} {s : State} {m : MethodId} {args : Array Value} {below : List Frame} {meth : Method} {c : Code} {D : va_G} {A : Nat → Prop} {q : Nat → Nat} {cI cZ : ClassId} {Q : State → Prop} {σ : St} {r : Int} (C : Cx p s m args meth c D (TY cI cZ) cX11_heir (some .int) 4 wsX11_heir RX11) (hret : RtI p l e rmX11_heir s m args below meth c D A cX11_heir Q (wM q cI cZ σ) (zI r)) (k4 : Int → Int → Option (Int)) (hk4 : ∀ (x1 : Int) (x2 : Int) (H : Heap) (locs : List Loc) (ls : Array Slot), Wd D A s (wM q cI cZ σ) H locs → lv_has ls 4 [(0, .ref (q 0)), (1, .int (zI x1)), (2, .int (zI x2))] → k4 x1 x2 = some r → W p l e rmX11_heir s m args below meth c H locs 0 0 Q (F0 m 4 ls [])) :
    ∀ (x1 : Int) (x2 : Int) (H : Heap) (locs : List Loc) (ls : Array Slot), Wd D A s (wM q cI cZ σ) H locs → lv_has ls 4 [(0, .ref (q 0)), (1, .int (zI x1)), (2, .int (zI x2))] → pX11_heir_29 k4 σ x1 x2 = some r → W p l e rmX11_heir s m args below meth c H locs 0 0 Q (F0 m 29 ls []) := by
  obtain ⟨hx, hb, hr, hml, hown, hts, hlk, hK, hN⟩ := id C
  intro x1 x2 H locs ls hw hl hf
  rw [pX11_heir_29] at hf
  refine lv_iconst (v := zI 1) hx hb dX11_heir_29 rfl ?_
  refine lv_goto (tgt := 34) hx hb dX11_heir_30 (by decide) ?_
  exact wX11_heir_34 C hret _ hk4 x1 x2 1 H locs ls hw (lv_sub hl [0, 1, 2] rfl) hf
set_option maxHeartbeats 4000000 in
set_option maxRecDepth 100000 in
theorem wX11_heir_4 {p : Program} {l : Launch} {e : Env} {s : State} {m : MethodId} {args : Array Value} {below : List Frame} {meth : Method} {c : Code} {D : va_G} {A : Nat → Prop} {q : Nat → Nat} {cI cZ : ClassId} {Q : State → Prop} {σ : St} {r : Int} (C : Cx p s m args meth c D (TY cI cZ) cX11_heir (some .int) 4 wsX11_heir RX11) (hret : RtI p l e rmX11_heir s m args below meth c D A cX11_heir Q (wM q cI cZ σ) (zI r)) :
    ∀ (n : Nat) (x1 : Int) (x2 : Int) (H : Heap) (locs : List Loc) (ls : Array Slot), Wd D A s (wM q cI cZ σ) H locs → lv_has ls 4 [(0, .ref (q 0)), (1, .int (zI x1)), (2, .int (zI x2))] → pX11_heir_4 σ n x1 x2 = some r → W p l e rmX11_heir s m args below meth c H locs 0 0 Q (F0 m 4 ls []) := by
  obtain ⟨hx, hb, hr, hml, hown, hts, hlk, hK, hN⟩ := id C
  intro n
  induction n with
  | zero =>
    intro x1 x2 H locs ls hw hl hf
    exact absurd (show (none : Option (Int)) = some r from hf) (by simp)
  | succ n ih =>
    intro x1 x2 H locs ls hw hl hf
    rw [pX11_heir_4] at hf
    refine lv_iload_n hx hb dX11_heir_4 rfl (lv_at hl 2 rfl) ?_
    refine lv_aload_n hx hb dX11_heir_5 rfl (lv_at hl 0 rfl) ?_
    refine va_get (D := D) (ci := 11) (v := .int (zI (σ.1 2))) (C := RX11) (T := TX11) (N := 40) hx hb hts (fun _ h => List.mem_cons_of_mem _ (List.mem_append_right _ h)) hown hK hw.1 0 rfl rfl 2 (by decide) (hts (.fieldLink RX11 93 "EggThronesModel" "eggs" "I") (List.mem_of_getElem? (i := 1) rfl)) (fun _ h9 => h9) rfl dX11_heir_6 ?_
    obtain ⟨hg9, hf⟩ := gd_s hf
    refine zv_icmp_ge (tgt := 61) hx hb hg9 dX11_heir_9 (by decide) (fun (c9 : (σ.1 2) ≤ x2) => ?_) (fun (c9 : ¬ ((σ.1 2) ≤ x2)) => ?_)
    · rw [if_pos c9] at hf
      refine lv_iload_n hx hb dX11_heir_61 rfl (lv_at hl 1 rfl) ?_
      cases hf
      exact hret H locs ls 62 dX11_heir_62 hw
    · rw [if_neg c9] at hf
      refine lv_iload_n hx hb dX11_heir_12 rfl (lv_at hl 1 rfl) ?_
      obtain ⟨hg13, hf⟩ := gd_s hf
      refine zv_if_lt (tgt := 29) hx hb hg13 dX11_heir_13 (by decide) (fun (c13 : x1 < 0) => ?_) (fun (c13 : ¬ (x1 < 0)) => ?_)
      · rw [if_pos c13] at hf
        exact wX11_heir_29 C hret _ ih x1 x2 H locs ls hw (lv_sub hl [0, 1, 2] rfl) hf
      · rw [if_neg c13] at hf
        refine lv_aload_n hx hb dX11_heir_16 rfl (lv_at hl 0 rfl) ?_
        refine lv_iload_n hx hb dX11_heir_17 rfl (lv_at hl 2 rfl) ?_
        obtain ⟨r18, h18, hf⟩ := bd_s hf
        replace hf := bt_s hf
        refine gVi (As := [.int (zI x2)]) (rest := []) C hw (tX11_reign h18) (cwV 1 hts gX11_heir_X11_reign rfl rfl rfl (by decide +kernel) ⟨Nat.le_of_ble_eq_true rfl, Nat.le_of_ble_eq_true rfl⟩) 11 0 rfl rfl rfl hl.1 rfl (Nat.le_of_ble_eq_true rfl) dX11_heir_18 (fun H locs hw => ?_)
        refine lv_aload_n hx hb dX11_heir_21 rfl (lv_at hl 0 rfl) ?_
        refine lv_iload_n hx hb dX11_heir_22 rfl (lv_at hl 1 rfl) ?_
        obtain ⟨r23, h23, hf⟩ := bd_s hf
        replace hf := bt_s hf
        refine gVi (As := [.int (zI x1)]) (rest := [.int (zI r18)]) C hw (tX11_reign h23) (cwV 1 hts gX11_heir_X11_reign rfl rfl rfl (by decide +kernel) ⟨Nat.le_of_ble_eq_true rfl, Nat.le_of_ble_eq_true rfl⟩) 11 0 rfl rfl rfl hl.1 rfl (Nat.le_of_ble_eq_true rfl) dX11_heir_23 (fun H locs hw => ?_)
        obtain ⟨hg26, hf⟩ := gd_s hf
        refine zv_icmp_le (tgt := 33) hx hb hg26 dX11_heir_26 (by decide) (fun (c26 : r18 ≤ r23) => ?_) (fun (c26 : ¬ (r18 ≤ r23)) => ?_)
        · rw [if_pos c26] at hf
          refine lv_iconst (v := zI 0) hx hb dX11_heir_33 rfl ?_
          exact wX11_heir_34 C hret _ ih x1 x2 0 H locs ls hw (lv_sub hl [0, 1, 2] rfl) hf
        · rw [if_neg c26] at hf
          exact wX11_heir_29 C hret _ ih x1 x2 H locs ls hw (lv_sub hl [0, 1, 2] rfl) hf
set_option maxHeartbeats 4000000 in
set_option maxRecDepth 100000 in
theorem wX11_heir_0 {p : Program} {l : Launch} {e : Env} {s : State} {m : MethodId} {args : Array Value} {below : List Frame} {meth : Method} {c : Code} {D : va_G} {A : Nat → Prop} {q : Nat → Nat} {cI cZ : ClassId} {Q : State → Prop} {σ : St} {r : Int} (C : Cx p s m args meth c D (TY cI cZ) cX11_heir (some .int) 4 wsX11_heir RX11) (hret : RtI p l e rmX11_heir s m args below meth c D A cX11_heir Q (wM q cI cZ σ) (zI r)) :
    ∀ (H : Heap) (locs : List Loc) (ls : Array Slot), Wd D A s (wM q cI cZ σ) H locs → lv_has ls 4 [(0, .ref (q 0))] → pX11_heir_0 σ = some r → W p l e rmX11_heir s m args below meth c H locs 0 0 Q (F0 m 0 ls []) := by
  obtain ⟨hx, hb, hr, hml, hown, hts, hlk, hK, hN⟩ := id C
  intro H locs ls hw hl hf
  rw [pX11_heir_0] at hf
  refine lv_iconst (v := zI (-1)) hx hb dX11_heir_0 rfl ?_
  refine lv_istore_n (lv' := [(1, .int (zI (-1))), (0, .ref (q 0))]) hx hb dX11_heir_1 rfl hl (by decide) rfl (fun ls hl => ?_)
  refine lv_iconst (v := zI 0) hx hb dX11_heir_2 rfl ?_
  refine lv_istore_n (lv' := [(2, .int (zI 0)), (1, .int (zI (-1))), (0, .ref (q 0))]) hx hb dX11_heir_3 rfl hl (by decide) rfl (fun ls hl => ?_)
  exact wX11_heir_4 C hret FU (-1) 0 H locs ls hw (lv_sub hl [2, 1, 0] rfl) hf
set_option maxHeartbeats 4000000 in
set_option maxRecDepth 100000 in
theorem tX11_heir {l : Launch} {D : va_G} {A : Nat → Prop} {cI cZ : ClassId} {q : Nat → Nat} {σ : St} {r : Int} (hf : pX11_heir σ = some r) : Met l yX11_heir wsX11_heir rmX11_heir (va_Pc [.ref (q 0)] (CX D (TY cI cZ) A (wM q cI cZ σ))) (QI D (TY cI cZ) A (wM q cI cZ σ) (zI r)) 0 0 A := by
  refine opn (cc := cX11_heir) (maxL := 4) (ret := (some .int)) (by decide) rfl (Nat.le_of_ble_eq_true rfl) (fun p e s m below meth c C ls hw hl => ?_)
  have hl : lv_has ls 4 [(0, .ref (q 0))] := hl
  rw [pX11_heir] at hf
  exact wX11_heir_0 C (rtI C) _ _ ls hw (lv_sub hl [0] rfl) hf
