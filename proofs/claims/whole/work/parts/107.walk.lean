abbrev rmX11_told : Room := { frames := 4, cells := 0, slots := 0, locals := 89 }
set_option maxHeartbeats 4000000 in
set_option maxRecDepth 100000 in
theorem wX11_told_0 {p : Program} {l : Launch} {e : Env} {s : State} {m : MethodId} {args : Array Value} {below : List Frame} {meth : Method} {c : Code} {D : va_G} {A : Nat → Prop} {q : Nat → Nat} {cI cZ : ClassId} {Q : State → Prop} {σ : St} {r : Int} (C : Cx p s m args meth c D (TY cI cZ) cX11_told (some .int) 2 wsX11_told RX11) (hret : RtI p l e rmX11_told s m args below meth c D A cX11_told Q (wM q cI cZ σ) (zI r)) :
    ∀ (x1 : Int) (H : Heap) (locs : List Loc) (ls : Array Slot), Wd D A s (wM q cI cZ σ) H locs → lv_has ls 2 [(0, .ref (q 0)), (1, .int (zI x1))] → pX11_told_0 σ x1 = some r → W p l e rmX11_told s m args below meth c H locs 0 0 Q (F0 m 0 ls []) := by
  obtain ⟨hx, hb, hr, hml, hown, hts, hlk, hK, hN⟩ := id C
  intro x1 H locs ls hw hl hf
  rw [pX11_told_0] at hf
  refine lv_iload_n hx hb dX11_told_0 rfl (lv_at hl 1 rfl) ?_
  obtain ⟨hg1, hf⟩ := gd_s hf
  by_cases c1_0 : x1 = 0
  · rw [if_pos c1_0] at hf
    refine lv_tableIn (off := 87) (tgt := 88) hx hb dX11_told_1 (by rw [zI_toInt hg1, c1_0]; decide) (by rw [zI_toInt hg1, c1_0]; decide) (by rw [zI_toInt hg1, c1_0]; rfl) (by decide) ?_
    refine lv_aload_n hx hb dX11_told_88 rfl (lv_at hl 0 rfl) ?_
    refine va_get (D := D) (ci := 11) (v := .int (zI (σ.1 0))) (C := RX11) (T := TX11) (N := 40) hx hb hts (fun _ h => List.mem_cons_of_mem _ (List.mem_append_right _ h)) hown hK hw.1 0 rfl rfl 0 (by decide) (hts (.fieldLink RX11 90 "EggThronesModel" "holds" "I") (List.mem_of_getElem? (i := 1) rfl)) (fun _ h9 => h9) rfl dX11_told_89 ?_
    cases hf
    exact hret H locs ls 92 dX11_told_92 hw
  rw [if_neg c1_0] at hf
  by_cases c1_1 : x1 = 1
  · rw [if_pos c1_1] at hf
    refine lv_tableIn (off := 92) (tgt := 93) hx hb dX11_told_1 (by rw [zI_toInt hg1, c1_1]; decide) (by rw [zI_toInt hg1, c1_1]; decide) (by rw [zI_toInt hg1, c1_1]; rfl) (by decide) ?_
    refine lv_aload_n hx hb dX11_told_93 rfl (lv_at hl 0 rfl) ?_
    refine va_get (D := D) (ci := 11) (v := .ref (q 6)) (C := RX11) (T := TX11) (N := 40) hx hb hts (fun _ h => List.mem_cons_of_mem _ (List.mem_append_right _ h)) hown hK hw.1 0 rfl rfl 9 (by decide) (hts (.fieldLink RX11 25 "EggThronesModel" "now" "[I") (List.mem_of_getElem? (i := 2) rfl)) (fun _ h9 => h9) rfl dX11_told_94 ?_
    refine lv_bipush (v := zI 14) hx hb dX11_told_97 (by decide +kernel) ?_
    refine zv_iald (D := D) hx hb hK hw.1 6 0 rfl rfl (by decide) (by decide) dX11_told_99 ?_
    cases hf
    exact hret H locs ls 100 dX11_told_100 hw
  rw [if_neg c1_1] at hf
  by_cases c1_2 : x1 = 2
  · rw [if_pos c1_2] at hf
    refine lv_tableIn (off := 100) (tgt := 101) hx hb dX11_told_1 (by rw [zI_toInt hg1, c1_2]; decide) (by rw [zI_toInt hg1, c1_2]; decide) (by rw [zI_toInt hg1, c1_2]; rfl) (by decide) ?_
    refine lv_aload_n hx hb dX11_told_101 rfl (lv_at hl 0 rfl) ?_
    refine va_get (D := D) (ci := 11) (v := .int (zI (σ.1 1))) (C := RX11) (T := TX11) (N := 40) hx hb hts (fun _ h => List.mem_cons_of_mem _ (List.mem_append_right _ h)) hown hK hw.1 0 rfl rfl 1 (by decide) (hts (.fieldLink RX11 153 "EggThronesModel" "bears" "I") (List.mem_of_getElem? (i := 3) rfl)) (fun _ h9 => h9) rfl dX11_told_102 ?_
    cases hf
    exact hret H locs ls 105 dX11_told_105 hw
  rw [if_neg c1_2] at hf
  by_cases c1_3 : x1 = 3
  · rw [if_pos c1_3] at hf
    refine lv_tableIn (off := 105) (tgt := 106) hx hb dX11_told_1 (by rw [zI_toInt hg1, c1_3]; decide) (by rw [zI_toInt hg1, c1_3]; decide) (by rw [zI_toInt hg1, c1_3]; rfl) (by decide) ?_
    refine lv_aload_n hx hb dX11_told_106 rfl (lv_at hl 0 rfl) ?_
    refine va_get (D := D) (ci := 11) (v := .int (zI (σ.1 2))) (C := RX11) (T := TX11) (N := 40) hx hb hts (fun _ h => List.mem_cons_of_mem _ (List.mem_append_right _ h)) hown hK hw.1 0 rfl rfl 2 (by decide) (hts (.fieldLink RX11 93 "EggThronesModel" "eggs" "I") (List.mem_of_getElem? (i := 4) rfl)) (fun _ h9 => h9) rfl dX11_told_107 ?_
    cases hf
    exact hret H locs ls 110 dX11_told_110 hw
  rw [if_neg c1_3] at hf
  by_cases c1_4 : x1 = 4
  · rw [if_pos c1_4] at hf
    refine lv_tableIn (off := 110) (tgt := 111) hx hb dX11_told_1 (by rw [zI_toInt hg1, c1_4]; decide) (by rw [zI_toInt hg1, c1_4]; decide) (by rw [zI_toInt hg1, c1_4]; rfl) (by decide) ?_
    refine lv_aload_n hx hb dX11_told_111 rfl (lv_at hl 0 rfl) ?_
    refine va_get (D := D) (ci := 11) (v := .int (zI (σ.1 3))) (C := RX11) (T := TX11) (N := 40) hx hb hts (fun _ h => List.mem_cons_of_mem _ (List.mem_append_right _ h)) hown hK hw.1 0 rfl rfl 5 (by decide) (hts (.fieldLink RX11 100 "EggThronesModel" "eaters" "I") (List.mem_of_getElem? (i := 5) rfl)) (fun _ h9 => h9) rfl dX11_told_112 ?_
    cases hf
    exact hret H locs ls 115 dX11_told_115 hw
  rw [if_neg c1_4] at hf
  by_cases c1_5 : x1 = 5
  · rw [if_pos c1_5] at hf
    refine lv_tableIn (off := 115) (tgt := 116) hx hb dX11_told_1 (by rw [zI_toInt hg1, c1_5]; decide) (by rw [zI_toInt hg1, c1_5]; decide) (by rw [zI_toInt hg1, c1_5]; rfl) (by decide) ?_
    refine lv_aload_n hx hb dX11_told_116 rfl (lv_at hl 0 rfl) ?_
    refine va_get (D := D) (ci := 11) (v := .int (zI (σ.1 5))) (C := RX11) (T := TX11) (N := 40) hx hb hts (fun _ h => List.mem_cons_of_mem _ (List.mem_append_right _ h)) hown hK hw.1 0 rfl rfl 12 (by decide) (hts (.fieldLink RX11 106 "EggThronesModel" "texted" "I") (List.mem_of_getElem? (i := 6) rfl)) (fun _ h9 => h9) rfl dX11_told_117 ?_
    cases hf
    exact hret H locs ls 120 dX11_told_120 hw
  rw [if_neg c1_5] at hf
  by_cases c1_6 : x1 = 6
  · rw [if_pos c1_6] at hf
    refine lv_tableIn (off := 120) (tgt := 121) hx hb dX11_told_1 (by rw [zI_toInt hg1, c1_6]; decide) (by rw [zI_toInt hg1, c1_6]; decide) (by rw [zI_toInt hg1, c1_6]; rfl) (by decide) ?_
    refine lv_aload_n hx hb dX11_told_121 rfl (lv_at hl 0 rfl) ?_
    refine va_get (D := D) (ci := 11) (v := .ref (q 6)) (C := RX11) (T := TX11) (N := 40) hx hb hts (fun _ h => List.mem_cons_of_mem _ (List.mem_append_right _ h)) hown hK hw.1 0 rfl rfl 9 (by decide) (hts (.fieldLink RX11 25 "EggThronesModel" "now" "[I") (List.mem_of_getElem? (i := 2) rfl)) (fun _ h9 => h9) rfl dX11_told_122 ?_
    refine lv_bipush (v := zI 16) hx hb dX11_told_125 (by decide +kernel) ?_
    refine zv_iald (D := D) hx hb hK hw.1 6 0 rfl rfl (by decide) (by decide) dX11_told_127 ?_
    cases hf
    exact hret H locs ls 128 dX11_told_128 hw
  rw [if_neg c1_6] at hf
  by_cases c1_7 : x1 = 7
  · rw [if_pos c1_7] at hf
    refine lv_tableIn (off := 128) (tgt := 129) hx hb dX11_told_1 (by rw [zI_toInt hg1, c1_7]; decide) (by rw [zI_toInt hg1, c1_7]; decide) (by rw [zI_toInt hg1, c1_7]; rfl) (by decide) ?_
    refine lv_aload_n hx hb dX11_told_129 rfl (lv_at hl 0 rfl) ?_
    obtain ⟨r130, h130, hf⟩ := bd_s hf
    replace hf := bt_s hf
    refine gVi (As := []) (rest := []) C hw (tX11_king h130) (cwV 0 hts gX11_told_X11_king rfl rfl rfl (by decide +kernel) ⟨Nat.le_of_ble_eq_true rfl, Nat.le_of_ble_eq_true rfl⟩) 11 0 rfl rfl rfl hl.1 rfl (Nat.le_of_ble_eq_true rfl) dX11_told_130 (fun H locs hw => ?_)
    cases hf
    exact hret H locs ls 133 dX11_told_133 hw
  rw [if_neg c1_7] at hf
  by_cases c1_8 : x1 = 8
  · rw [if_pos c1_8] at hf
    refine lv_tableIn (off := 133) (tgt := 134) hx hb dX11_told_1 (by rw [zI_toInt hg1, c1_8]; decide) (by rw [zI_toInt hg1, c1_8]; decide) (by rw [zI_toInt hg1, c1_8]; rfl) (by decide) ?_
    refine lv_aload_n hx hb dX11_told_134 rfl (lv_at hl 0 rfl) ?_
    refine va_get (D := D) (ci := 11) (v := .ref (q 6)) (C := RX11) (T := TX11) (N := 40) hx hb hts (fun _ h => List.mem_cons_of_mem _ (List.mem_append_right _ h)) hown hK hw.1 0 rfl rfl 9 (by decide) (hts (.fieldLink RX11 25 "EggThronesModel" "now" "[I") (List.mem_of_getElem? (i := 2) rfl)) (fun _ h9 => h9) rfl dX11_told_135 ?_
    refine lv_bipush (v := zI 15) hx hb dX11_told_138 (by decide +kernel) ?_
    refine zv_iald (D := D) hx hb hK hw.1 6 0 rfl rfl (by decide) (by decide) dX11_told_140 ?_
    cases hf
    exact hret H locs ls 141 dX11_told_141 hw
  rw [if_neg c1_8] at hf
  by_cases c1_9 : x1 = 9
  · rw [if_pos c1_9] at hf
    refine lv_tableIn (off := 141) (tgt := 142) hx hb dX11_told_1 (by rw [zI_toInt hg1, c1_9]; decide) (by rw [zI_toInt hg1, c1_9]; decide) (by rw [zI_toInt hg1, c1_9]; rfl) (by decide) ?_
    refine lv_aload_n hx hb dX11_told_142 rfl (lv_at hl 0 rfl) ?_
    refine va_get (D := D) (ci := 11) (v := .ref (q 6)) (C := RX11) (T := TX11) (N := 40) hx hb hts (fun _ h => List.mem_cons_of_mem _ (List.mem_append_right _ h)) hown hK hw.1 0 rfl rfl 9 (by decide) (hts (.fieldLink RX11 25 "EggThronesModel" "now" "[I") (List.mem_of_getElem? (i := 2) rfl)) (fun _ h9 => h9) rfl dX11_told_143 ?_
    refine lv_bipush (v := zI 17) hx hb dX11_told_146 (by decide +kernel) ?_
    refine zv_iald (D := D) hx hb hK hw.1 6 0 rfl rfl (by decide) (by decide) dX11_told_148 ?_
    cases hf
    exact hret H locs ls 149 dX11_told_149 hw
  rw [if_neg c1_9] at hf
  by_cases c1_10 : x1 = 10
  · rw [if_pos c1_10] at hf
    refine lv_tableIn (off := 149) (tgt := 150) hx hb dX11_told_1 (by rw [zI_toInt hg1, c1_10]; decide) (by rw [zI_toInt hg1, c1_10]; decide) (by rw [zI_toInt hg1, c1_10]; rfl) (by decide) ?_
    refine lv_aload_n hx hb dX11_told_150 rfl (lv_at hl 0 rfl) ?_
    refine va_get (D := D) (ci := 11) (v := .ref (q 6)) (C := RX11) (T := TX11) (N := 40) hx hb hts (fun _ h => List.mem_cons_of_mem _ (List.mem_append_right _ h)) hown hK hw.1 0 rfl rfl 9 (by decide) (hts (.fieldLink RX11 25 "EggThronesModel" "now" "[I") (List.mem_of_getElem? (i := 2) rfl)) (fun _ h9 => h9) rfl dX11_told_151 ?_
    refine lv_bipush (v := zI 18) hx hb dX11_told_154 (by decide +kernel) ?_
    refine zv_iald (D := D) hx hb hK hw.1 6 0 rfl rfl (by decide) (by decide) dX11_told_156 ?_
    cases hf
    exact hret H locs ls 157 dX11_told_157 hw
  rw [if_neg c1_10] at hf
  by_cases c1_11 : x1 = 11
  · rw [if_pos c1_11] at hf
    refine lv_tableIn (off := 157) (tgt := 158) hx hb dX11_told_1 (by rw [zI_toInt hg1, c1_11]; decide) (by rw [zI_toInt hg1, c1_11]; decide) (by rw [zI_toInt hg1, c1_11]; rfl) (by decide) ?_
    refine lv_aload_n hx hb dX11_told_158 rfl (lv_at hl 0 rfl) ?_
    refine lv_iconst (v := zI 1) hx hb dX11_told_159 rfl ?_
    obtain ⟨r160, h160, hf⟩ := bd_s hf
    replace hf := bt_s hf
    refine gVi (As := [.int (zI 1)]) (rest := []) C hw (tX11_allThat h160) (cwV 1 hts gX11_told_X11_allThat rfl rfl rfl (by decide +kernel) ⟨Nat.le_of_ble_eq_true rfl, Nat.le_of_ble_eq_true rfl⟩) 11 0 rfl rfl rfl hl.1 rfl (Nat.le_of_ble_eq_true rfl) dX11_told_160 (fun H locs hw => ?_)
    cases hf
    exact hret H locs ls 163 dX11_told_163 hw
  rw [if_neg c1_11] at hf
  by_cases c1_12 : x1 = 12
  · rw [if_pos c1_12] at hf
    refine lv_tableIn (off := 163) (tgt := 164) hx hb dX11_told_1 (by rw [zI_toInt hg1, c1_12]; decide) (by rw [zI_toInt hg1, c1_12]; decide) (by rw [zI_toInt hg1, c1_12]; rfl) (by decide) ?_
    refine lv_aload_n hx hb dX11_told_164 rfl (lv_at hl 0 rfl) ?_
    refine lv_iconst (v := zI 2) hx hb dX11_told_165 rfl ?_
    obtain ⟨r166, h166, hf⟩ := bd_s hf
    replace hf := bt_s hf
    refine gVi (As := [.int (zI 2)]) (rest := []) C hw (tX11_allThat h166) (cwV 1 hts gX11_told_X11_allThat rfl rfl rfl (by decide +kernel) ⟨Nat.le_of_ble_eq_true rfl, Nat.le_of_ble_eq_true rfl⟩) 11 0 rfl rfl rfl hl.1 rfl (Nat.le_of_ble_eq_true rfl) dX11_told_166 (fun H locs hw => ?_)
    cases hf
    exact hret H locs ls 169 dX11_told_169 hw
  rw [if_neg c1_12] at hf
  by_cases c1_13 : x1 = 13
  · rw [if_pos c1_13] at hf
    refine lv_tableIn (off := 169) (tgt := 170) hx hb dX11_told_1 (by rw [zI_toInt hg1, c1_13]; decide) (by rw [zI_toInt hg1, c1_13]; decide) (by rw [zI_toInt hg1, c1_13]; rfl) (by decide) ?_
    refine lv_aload_n hx hb dX11_told_170 rfl (lv_at hl 0 rfl) ?_
    obtain ⟨r171, h171, hf⟩ := bd_s hf
    replace hf := bt_s hf
    refine gVi (As := []) (rest := []) C hw (tX11_pretenders h171) (cwV 0 hts gX11_told_X11_pretenders rfl rfl rfl (by decide +kernel) ⟨Nat.le_of_ble_eq_true rfl, Nat.le_of_ble_eq_true rfl⟩) 11 0 rfl rfl rfl hl.1 rfl (Nat.le_of_ble_eq_true rfl) dX11_told_171 (fun H locs hw => ?_)
    cases hf
    exact hret H locs ls 174 dX11_told_174 hw
  rw [if_neg c1_13] at hf
  by_cases c1_14 : x1 = 14
  · rw [if_pos c1_14] at hf
    refine lv_tableIn (off := 174) (tgt := 175) hx hb dX11_told_1 (by rw [zI_toInt hg1, c1_14]; decide) (by rw [zI_toInt hg1, c1_14]; decide) (by rw [zI_toInt hg1, c1_14]; rfl) (by decide) ?_
    refine lv_aload_n hx hb dX11_told_175 rfl (lv_at hl 0 rfl) ?_
    obtain ⟨r176, h176, hf⟩ := bd_s hf
    replace hf := bt_s hf
    refine gVi (As := []) (rest := []) C hw (tX11_heir h176) (cwV 0 hts gX11_told_X11_heir rfl rfl rfl (by decide +kernel) ⟨Nat.le_of_ble_eq_true rfl, Nat.le_of_ble_eq_true rfl⟩) 11 0 rfl rfl rfl hl.1 rfl (Nat.le_of_ble_eq_true rfl) dX11_told_176 (fun H locs hw => ?_)
    cases hf
    exact hret H locs ls 179 dX11_told_179 hw
  rw [if_neg c1_14] at hf
  by_cases c1_15 : x1 = 15
  · rw [if_pos c1_15] at hf
    refine lv_tableIn (off := 179) (tgt := 180) hx hb dX11_told_1 (by rw [zI_toInt hg1, c1_15]; decide) (by rw [zI_toInt hg1, c1_15]; decide) (by rw [zI_toInt hg1, c1_15]; rfl) (by decide) ?_
    refine lv_aload_n hx hb dX11_told_180 rfl (lv_at hl 0 rfl) ?_
    refine va_get (D := D) (ci := 11) (v := .int (zI (σ.1 13))) (C := RX11) (T := TX11) (N := 40) hx hb hts (fun _ h => List.mem_cons_of_mem _ (List.mem_append_right _ h)) hown hK hw.1 0 rfl rfl 31 (by decide) (hts (.fieldLink RX11 162 "EggThronesModel" "seen" "I") (List.mem_of_getElem? (i := 7) rfl)) (fun _ h9 => h9) rfl dX11_told_181 ?_
    cases hf
    exact hret H locs ls 184 dX11_told_184 hw
  rw [if_neg c1_15] at hf
  by_cases c1_16 : x1 = 16
  · rw [if_pos c1_16] at hf
    refine lv_tableIn (off := 184) (tgt := 185) hx hb dX11_told_1 (by rw [zI_toInt hg1, c1_16]; decide) (by rw [zI_toInt hg1, c1_16]; decide) (by rw [zI_toInt hg1, c1_16]; rfl) (by decide) ?_
    refine lv_aload_n hx hb dX11_told_185 rfl (lv_at hl 0 rfl) ?_
    refine va_get (D := D) (ci := 11) (v := .int (zI (σ.1 14))) (C := RX11) (T := TX11) (N := 40) hx hb hts (fun _ h => List.mem_cons_of_mem _ (List.mem_append_right _ h)) hown hK hw.1 0 rfl rfl 35 (by decide) (hts (.fieldLink RX11 165 "EggThronesModel" "booked" "I") (List.mem_of_getElem? (i := 8) rfl)) (fun _ h9 => h9) rfl dX11_told_186 ?_
    cases hf
    exact hret H locs ls 189 dX11_told_189 hw
  rw [if_neg c1_16] at hf
  by_cases c1_17 : x1 = 17
  · rw [if_pos c1_17] at hf
    refine lv_tableIn (off := 189) (tgt := 190) hx hb dX11_told_1 (by rw [zI_toInt hg1, c1_17]; decide) (by rw [zI_toInt hg1, c1_17]; decide) (by rw [zI_toInt hg1, c1_17]; rfl) (by decide) ?_
    refine lv_aload_n hx hb dX11_told_190 rfl (lv_at hl 0 rfl) ?_
    refine va_get (D := D) (ci := 11) (v := .int (zI (σ.1 12))) (C := RX11) (T := TX11) (N := 40) hx hb hts (fun _ h => List.mem_cons_of_mem _ (List.mem_append_right _ h)) hown hK hw.1 0 rfl rfl 24 (by decide) (hts (.fieldLink RX11 168 "EggThronesModel" "undos" "I") (List.mem_of_getElem? (i := 9) rfl)) (fun _ h9 => h9) rfl dX11_told_191 ?_
    cases hf
    exact hret H locs ls 194 dX11_told_194 hw
  rw [if_neg c1_17] at hf
  refine lv_tableOut (tgt := 195) hx hb dX11_told_1 (by rw [zI_toInt hg1]; omega) (by decide) ?_
  refine zv_ldc hx hb (-1000000002) (by decide +kernel) hown (hts (.constant RX11 105 (-1000000002)) (List.mem_of_getElem? (i := 10) rfl)) dX11_told_195 ?_
  cases hf
  exact hret H locs ls 197 dX11_told_197 hw
set_option maxHeartbeats 4000000 in
set_option maxRecDepth 100000 in
theorem tX11_told {l : Launch} {D : va_G} {A : Nat → Prop} {cI cZ : ClassId} {q : Nat → Nat} {σ : St} {x1 : Int} {r : Int} (hf : pX11_told σ x1 = some r) : Met l yX11_told wsX11_told rmX11_told (va_Pc [.ref (q 0), .int (zI x1)] (CX D (TY cI cZ) A (wM q cI cZ σ))) (QI D (TY cI cZ) A (wM q cI cZ σ) (zI r)) 0 0 A := by
  refine opn (cc := cX11_told) (maxL := 2) (ret := (some .int)) (by decide) rfl (Nat.le_of_ble_eq_true rfl) (fun p e s m below meth c C ls hw hl => ?_)
  have hl : lv_has ls 2 [(0, .ref (q 0)), (1, .int (zI x1))] := hl
  rw [pX11_told] at hf
  exact wX11_told_0 C (rtI C) x1 _ _ ls hw (lv_sub hl [0, 1] rfl) hf
abbrev rmX8_ageOf_c1 : Room := { frames := 1, cells := 0, slots := 0, locals := 21 }
set_option maxHeartbeats 4000000 in
set_option maxRecDepth 100000 in
theorem wX8_ageOf_c1_0 {p : Program} {l : Launch} {e : Env} {s : State} {m : MethodId} {args : Array Value} {below : List Frame} {meth : Method} {c : Code} {D : va_G} {A : Nat → Prop} {q : Nat → Nat} {cI cZ : ClassId} {Q : State → Prop} {σ : St} {r : Int} (C : Cx p s m args meth c D (TY cI cZ) cX8_ageOf (some .int) 2 wsX8_ageOf RX8) (hret : RtI p l e rmX8_ageOf_c1 s m args below meth c D A cX8_ageOf Q (wE q cI cZ σ) (zI r)) :
    ∀ (x1 : Int) (H : Heap) (locs : List Loc) (ls : Array Slot), Wd D A s (wE q cI cZ σ) H locs → lv_has ls 2 [(0, .ref (q 1)), (1, .int (zI x1))] → pX8_ageOf_c1_0 σ x1 = some r → W p l e rmX8_ageOf_c1 s m args below meth c H locs 0 0 Q (F0 m 0 ls []) := by
  obtain ⟨hx, hb, hr, hml, hown, hts, hlk, hK, hN⟩ := id C
  intro x1 H locs ls hw hl hf
  rw [pX8_ageOf_c1_0] at hf
  refine lv_aload_n hx hb dX8_ageOf_0 rfl (lv_at hl 0 rfl) ?_
  refine lv_iload_n hx hb dX8_ageOf_1 rfl (lv_at hl 1 rfl) ?_
  obtain ⟨r2, h2, hf⟩ := bd_s hf
  replace hf := bt_s hf
  refine gVi (As := [.int (zI x1)]) (rest := []) C hw (tX8_hasEgg_c1 h2) (cwV 1 hts gX8_ageOf_X8_hasEgg rfl rfl rfl (by decide +kernel) ⟨Nat.le_of_ble_eq_true rfl, Nat.le_of_ble_eq_true rfl⟩) 8 1 rfl rfl rfl hl.1 rfl (Nat.le_of_ble_eq_true rfl) dX8_ageOf_2 (fun H locs hw => ?_)
  obtain ⟨hg5, hf⟩ := gd_s hf
  refine zv_if_eq (tgt := 17) hx hb hg5 dX8_ageOf_5 (by decide) (fun (c5 : r2 = 0) => ?_) (fun (c5 : ¬ (r2 = 0)) => ?_)
  · rw [if_pos c5] at hf
    refine lv_iconst (v := zI 0) hx hb dX8_ageOf_17 rfl ?_
    cases hf
    exact hret H locs ls 18 dX8_ageOf_18 hw
  · rw [if_neg c5] at hf
    refine lv_aload_n hx hb dX8_ageOf_8 rfl (lv_at hl 0 rfl) ?_
    refine va_get (D := D) (ci := 8) (v := .ref (q 2)) (C := RX8) (T := TX8) (N := 10) hx hb hts (fun _ h => List.mem_cons_of_mem _ (List.mem_append_right _ h)) hown hK hw.1 1 rfl rfl 5 (by decide) (hts (.fieldLink RX8 9 "EggThrones$Table" "ages" "[I") (List.mem_of_getElem? (i := 1) rfl)) (fun _ h9 => h9) rfl dX8_ageOf_9 ?_
    refine lv_iload_n hx hb dX8_ageOf_12 rfl (lv_at hl 1 rfl) ?_
    obtain ⟨hi13, hf⟩ := gd_s hf
    refine zv_iald (D := D) hx hb hK hw.1 2 0 rfl rfl hi13 (by decide) dX8_ageOf_13 ?_
    refine lv_goto (tgt := 18) hx hb dX8_ageOf_14 (by decide) ?_
    cases hf
    exact hret H locs ls 18 dX8_ageOf_18 hw
set_option maxHeartbeats 4000000 in
set_option maxRecDepth 100000 in
theorem tX8_ageOf_c1 {l : Launch} {D : va_G} {A : Nat → Prop} {cI cZ : ClassId} {q : Nat → Nat} {σ : St} {x1 : Int} {r : Int} (hf : pX8_ageOf_c1 σ x1 = some r) : Met l yX8_ageOf wsX8_ageOf rmX8_ageOf_c1 (va_Pc [.ref (q 1), .int (zI x1)] (CX D (TY cI cZ) A (wE q cI cZ σ))) (QI D (TY cI cZ) A (wE q cI cZ σ) (zI r)) 0 0 A := by
  refine opn (cc := cX8_ageOf) (maxL := 2) (ret := (some .int)) (by decide) rfl (Nat.le_of_ble_eq_true rfl) (fun p e s m below meth c C ls hw hl => ?_)
  have hl : lv_has ls 2 [(0, .ref (q 1)), (1, .int (zI x1))] := hl
  rw [pX8_ageOf_c1] at hf
  exact wX8_ageOf_c1_0 C (rtI C) x1 _ _ ls hw (lv_sub hl [0, 1] rfl) hf
abbrev rmX8_wishOf_c1 : Room := { frames := 1, cells := 0, slots := 0, locals := 21 }
set_option maxHeartbeats 4000000 in
set_option maxRecDepth 100000 in
theorem wX8_wishOf_c1_0 {p : Program} {l : Launch} {e : Env} {s : State} {m : MethodId} {args : Array Value} {below : List Frame} {meth : Method} {c : Code} {D : va_G} {A : Nat → Prop} {q : Nat → Nat} {cI cZ : ClassId} {Q : State → Prop} {σ : St} {r : Int} (C : Cx p s m args meth c D (TY cI cZ) cX8_wishOf (some .int) 2 wsX8_wishOf RX8) (hret : RtI p l e rmX8_wishOf_c1 s m args below meth c D A cX8_wishOf Q (wE q cI cZ σ) (zI r)) :
    ∀ (x1 : Int) (H : Heap) (locs : List Loc) (ls : Array Slot), Wd D A s (wE q cI cZ σ) H locs → lv_has ls 2 [(0, .ref (q 1)), (1, .int (zI x1))] → pX8_wishOf_c1_0 σ x1 = some r → W p l e rmX8_wishOf_c1 s m args below meth c H locs 0 0 Q (F0 m 0 ls []) := by
  obtain ⟨hx, hb, hr, hml, hown, hts, hlk, hK, hN⟩ := id C
  intro x1 H locs ls hw hl hf
  rw [pX8_wishOf_c1_0] at hf
  refine lv_aload_n hx hb dX8_wishOf_0 rfl (lv_at hl 0 rfl) ?_
  refine lv_iload_n hx hb dX8_wishOf_1 rfl (lv_at hl 1 rfl) ?_
  obtain ⟨r2, h2, hf⟩ := bd_s hf
  replace hf := bt_s hf
  refine gVi (As := [.int (zI x1)]) (rest := []) C hw (tX8_hasEgg_c1 h2) (cwV 1 hts gX8_wishOf_X8_hasEgg rfl rfl rfl (by decide +kernel) ⟨Nat.le_of_ble_eq_true rfl, Nat.le_of_ble_eq_true rfl⟩) 8 1 rfl rfl rfl hl.1 rfl (Nat.le_of_ble_eq_true rfl) dX8_wishOf_2 (fun H locs hw => ?_)
  obtain ⟨hg5, hf⟩ := gd_s hf
  refine zv_if_eq (tgt := 17) hx hb hg5 dX8_wishOf_5 (by decide) (fun (c5 : r2 = 0) => ?_) (fun (c5 : ¬ (r2 = 0)) => ?_)
  · rw [if_pos c5] at hf
    refine lv_iconst (v := zI 0) hx hb dX8_wishOf_17 rfl ?_
    cases hf
    exact hret H locs ls 18 dX8_wishOf_18 hw
  · rw [if_neg c5] at hf
    refine lv_aload_n hx hb dX8_wishOf_8 rfl (lv_at hl 0 rfl) ?_
    refine va_get (D := D) (ci := 8) (v := .ref (q 4)) (C := RX8) (T := TX8) (N := 10) hx hb hts (fun _ h => List.mem_cons_of_mem _ (List.mem_append_right _ h)) hown hK hw.1 1 rfl rfl 7 (by decide) (hts (.fieldLink RX8 18 "EggThrones$Table" "wishes" "[I") (List.mem_of_getElem? (i := 1) rfl)) (fun _ h9 => h9) rfl dX8_wishOf_9 ?_
    refine lv_iload_n hx hb dX8_wishOf_12 rfl (lv_at hl 1 rfl) ?_
    obtain ⟨hi13, hf⟩ := gd_s hf
    refine zv_iald (D := D) hx hb hK hw.1 4 0 rfl rfl hi13 (by decide) dX8_wishOf_13 ?_
    refine lv_goto (tgt := 18) hx hb dX8_wishOf_14 (by decide) ?_
    cases hf
    exact hret H locs ls 18 dX8_wishOf_18 hw
set_option maxHeartbeats 4000000 in
set_option maxRecDepth 100000 in
theorem tX8_wishOf_c1 {l : Launch} {D : va_G} {A : Nat → Prop} {cI cZ : ClassId} {q : Nat → Nat} {σ : St} {x1 : Int} {r : Int} (hf : pX8_wishOf_c1 σ x1 = some r) : Met l yX8_wishOf wsX8_wishOf rmX8_wishOf_c1 (va_Pc [.ref (q 1), .int (zI x1)] (CX D (TY cI cZ) A (wE q cI cZ σ))) (QI D (TY cI cZ) A (wE q cI cZ σ) (zI r)) 0 0 A := by
  refine opn (cc := cX8_wishOf) (maxL := 2) (ret := (some .int)) (by decide) rfl (Nat.le_of_ble_eq_true rfl) (fun p e s m below meth c C ls hw hl => ?_)
  have hl : lv_has ls 2 [(0, .ref (q 1)), (1, .int (zI x1))] := hl
  rw [pX8_wishOf_c1] at hf
  exact wX8_wishOf_c1_0 C (rtI C) x1 _ _ ls hw (lv_sub hl [0, 1] rfl) hf
abbrev rmX10_egg : Room := { frames := 4, cells := 0, slots := 0, locals := 96 }
set_option maxHeartbeats 4000000 in
set_option maxRecDepth 100000 in
theorem wX10_egg_0 {p : Program} {l : Launch} {e : Env} {s : State} {m : MethodId} {args : Array Value} {below : List Frame} {meth : Method} {c : Code} {D : va_G} {A : Nat → Prop} {q : Nat → Nat} {cI cZ : ClassId} {Q : State → Prop} {σ : St} {r : Int} (C : Cx p s m args meth c D (TY cI cZ) cX10_egg (some .int) 3 wsX10_egg RX10) (hret : RtI p l e rmX10_egg s m args below meth c D A cX10_egg Q (wE q cI cZ σ) (zI r)) :
    ∀ (x1 : Int) (x2 : Int) (H : Heap) (locs : List Loc) (ls : Array Slot), Wd D A s (wE q cI cZ σ) H locs → lv_has ls 3 [(0, .ref (q 0)), (1, .int (zI x1)), (2, .int (zI x2))] → pX10_egg_0 σ x1 x2 = some r → W p l e rmX10_egg s m args below meth c H locs 0 0 Q (F0 m 0 ls []) := by
  obtain ⟨hx, hb, hr, hml, hown, hts, hlk, hK, hN⟩ := id C
  intro x1 x2 H locs ls hw hl hf
  rw [pX10_egg_0] at hf
  refine lv_aload_n hx hb dX10_egg_0 rfl (lv_at hl 0 rfl) ?_
  refine va_get (D := D) (ci := 10) (v := .ref (q 1)) (C := RX10) (T := TX10) (N := 13) hx hb hts (fun _ h => List.mem_cons_of_mem _ (List.mem_append_left _ (List.mem_append_left _ (List.mem_append_right _ h)))) hown hK hw.1 0 rfl rfl 1 (by decide) (hts (.fieldLink RX10 19 "EggThrones" "laid" "LEggThrones$Table;") (List.mem_of_getElem? (i := 1) rfl)) (fun _ h9 => h9) rfl dX10_egg_1 ?_
  refine lv_iload_n hx hb dX10_egg_4 rfl (lv_at hl 1 rfl) ?_
  obtain ⟨r5, h5, hf⟩ := bd_s hf
  replace hf := bt_s hf
  refine gVi (As := [.int (zI x1)]) (rest := []) C hw (tX8_hasEgg_c1 h5) (cwV 1 hts gX10_egg_X8_hasEgg rfl rfl rfl (by decide +kernel) ⟨Nat.le_of_ble_eq_true rfl, Nat.le_of_ble_eq_true rfl⟩) 8 1 rfl rfl rfl hl.1 rfl (Nat.le_of_ble_eq_true rfl) dX10_egg_5 (fun H locs hw => ?_)
  obtain ⟨hg8, hf⟩ := gd_s hf
  refine zv_if_ne (tgt := 14) hx hb hg8 dX10_egg_8 (by decide) (fun (c8 : ¬ (r5 = 0)) => ?_) (fun (c8 : r5 = 0) => ?_)
  · rw [if_neg c8] at hf
    refine lv_iload_n hx hb dX10_egg_14 rfl (lv_at hl 2 rfl) ?_
    obtain ⟨hg15, hf⟩ := gd_s hf
    by_cases c15_0 : x2 = 0
    · rw [if_pos c15_0] at hf
      refine lv_tableIn (off := 41) (tgt := 56) hx hb dX10_egg_15 (by rw [zI_toInt hg15, c15_0]; decide) (by rw [zI_toInt hg15, c15_0]; decide) (by rw [zI_toInt hg15, c15_0]; rfl) (by decide) ?_
      refine lv_aload_n hx hb dX10_egg_56 rfl (lv_at hl 0 rfl) ?_
      refine va_get (D := D) (ci := 10) (v := .ref (q 1)) (C := RX10) (T := TX10) (N := 13) hx hb hts (fun _ h => List.mem_cons_of_mem _ (List.mem_append_left _ (List.mem_append_left _ (List.mem_append_right _ h)))) hown hK hw.1 0 rfl rfl 1 (by decide) (hts (.fieldLink RX10 19 "EggThrones" "laid" "LEggThrones$Table;") (List.mem_of_getElem? (i := 1) rfl)) (fun _ h9 => h9) rfl dX10_egg_57 ?_
      refine lv_iload_n hx hb dX10_egg_60 rfl (lv_at hl 1 rfl) ?_
      obtain ⟨r61, h61, hf⟩ := bd_s hf
      replace hf := bt_s hf
      refine gVi (As := [.int (zI x1)]) (rest := []) C hw (tX8_ageOf_c1 h61) (cwV 1 hts gX10_egg_X8_ageOf rfl rfl rfl (by decide +kernel) ⟨Nat.le_of_ble_eq_true rfl, Nat.le_of_ble_eq_true rfl⟩) 8 1 rfl rfl rfl hl.1 rfl (Nat.le_of_ble_eq_true rfl) dX10_egg_61 (fun H locs hw => ?_)
      cases hf
      exact hret H locs ls 64 dX10_egg_64 hw
    rw [if_neg c15_0] at hf
    by_cases c15_1 : x2 = 1
    · rw [if_pos c15_1] at hf
      refine lv_tableIn (off := 50) (tgt := 65) hx hb dX10_egg_15 (by rw [zI_toInt hg15, c15_1]; decide) (by rw [zI_toInt hg15, c15_1]; decide) (by rw [zI_toInt hg15, c15_1]; rfl) (by decide) ?_
      refine lv_aload_n hx hb dX10_egg_65 rfl (lv_at hl 0 rfl) ?_
      refine va_get (D := D) (ci := 10) (v := .ref (q 1)) (C := RX10) (T := TX10) (N := 13) hx hb hts (fun _ h => List.mem_cons_of_mem _ (List.mem_append_left _ (List.mem_append_left _ (List.mem_append_right _ h)))) hown hK hw.1 0 rfl rfl 1 (by decide) (hts (.fieldLink RX10 19 "EggThrones" "laid" "LEggThrones$Table;") (List.mem_of_getElem? (i := 1) rfl)) (fun _ h9 => h9) rfl dX10_egg_66 ?_
      refine lv_iload_n hx hb dX10_egg_69 rfl (lv_at hl 1 rfl) ?_
      obtain ⟨r70, h70, hf⟩ := bd_s hf
      replace hf := bt_s hf
      refine gVi (As := [.int (zI x1)]) (rest := []) C hw (tX8_sizeOf_c1 h70) (cwV 1 hts gX10_egg_X8_sizeOf rfl rfl rfl (by decide +kernel) ⟨Nat.le_of_ble_eq_true rfl, Nat.le_of_ble_eq_true rfl⟩) 8 1 rfl rfl rfl hl.1 rfl (Nat.le_of_ble_eq_true rfl) dX10_egg_70 (fun H locs hw => ?_)
      cases hf
      exact hret H locs ls 73 dX10_egg_73 hw
    rw [if_neg c15_1] at hf
    by_cases c15_2 : x2 = 2
    · rw [if_pos c15_2] at hf
      refine lv_tableIn (off := 59) (tgt := 74) hx hb dX10_egg_15 (by rw [zI_toInt hg15, c15_2]; decide) (by rw [zI_toInt hg15, c15_2]; decide) (by rw [zI_toInt hg15, c15_2]; rfl) (by decide) ?_
      refine lv_aload_n hx hb dX10_egg_74 rfl (lv_at hl 0 rfl) ?_
      refine va_get (D := D) (ci := 10) (v := .ref (q 15)) (C := RX10) (T := TX10) (N := 13) hx hb hts (fun _ h => List.mem_cons_of_mem _ (List.mem_append_left _ (List.mem_append_left _ (List.mem_append_right _ h)))) hown hK hw.1 0 rfl rfl 3 (by decide) (hts (.fieldLink RX10 31 "EggThrones" "now" "LEggThrones$Morning;") (List.mem_of_getElem? (i := 3) rfl)) (fun _ h9 => h9) rfl dX10_egg_75 ?_
      refine lv_iload_n hx hb dX10_egg_78 rfl (lv_at hl 1 rfl) ?_
      obtain ⟨r79, h79, hf⟩ := bd_s hf
      replace hf := bt_s hf
      refine gVi (As := [.int (zI x1)]) (rest := []) C hw (tX4_stateOf h79) (cwV 1 hts gX10_egg_X4_stateOf rfl rfl rfl (by decide +kernel) ⟨Nat.le_of_ble_eq_true rfl, Nat.le_of_ble_eq_true rfl⟩) 4 15 rfl rfl rfl hl.1 rfl (Nat.le_of_ble_eq_true rfl) dX10_egg_79 (fun H locs hw => ?_)
      cases hf
      exact hret H locs ls 82 dX10_egg_82 hw
    rw [if_neg c15_2] at hf
    by_cases c15_3 : x2 = 3
    · rw [if_pos c15_3] at hf
      refine lv_tableIn (off := 68) (tgt := 83) hx hb dX10_egg_15 (by rw [zI_toInt hg15, c15_3]; decide) (by rw [zI_toInt hg15, c15_3]; decide) (by rw [zI_toInt hg15, c15_3]; rfl) (by decide) ?_
      refine lv_aload_n hx hb dX10_egg_83 rfl (lv_at hl 0 rfl) ?_
      refine va_get (D := D) (ci := 10) (v := .ref (q 15)) (C := RX10) (T := TX10) (N := 13) hx hb hts (fun _ h => List.mem_cons_of_mem _ (List.mem_append_left _ (List.mem_append_left _ (List.mem_append_right _ h)))) hown hK hw.1 0 rfl rfl 3 (by decide) (hts (.fieldLink RX10 31 "EggThrones" "now" "LEggThrones$Morning;") (List.mem_of_getElem? (i := 3) rfl)) (fun _ h9 => h9) rfl dX10_egg_84 ?_
      refine lv_iload_n hx hb dX10_egg_87 rfl (lv_at hl 1 rfl) ?_
      obtain ⟨r88, h88, hf⟩ := bd_s hf
      replace hf := bt_s hf
      refine gVi (As := [.int (zI x1)]) (rest := []) C hw (tX4_boiledOf h88) (cwV 1 hts gX10_egg_X4_boiledOf rfl rfl rfl (by decide +kernel) ⟨Nat.le_of_ble_eq_true rfl, Nat.le_of_ble_eq_true rfl⟩) 4 15 rfl rfl rfl hl.1 rfl (Nat.le_of_ble_eq_true rfl) dX10_egg_88 (fun H locs hw => ?_)
      cases hf
      exact hret H locs ls 91 dX10_egg_91 hw
    rw [if_neg c15_3] at hf
    by_cases c15_4 : x2 = 4
    · rw [if_pos c15_4] at hf
      refine lv_tableIn (off := 77) (tgt := 92) hx hb dX10_egg_15 (by rw [zI_toInt hg15, c15_4]; decide) (by rw [zI_toInt hg15, c15_4]; decide) (by rw [zI_toInt hg15, c15_4]; rfl) (by decide) ?_
      refine lv_aload_n hx hb dX10_egg_92 rfl (lv_at hl 0 rfl) ?_
      refine va_get (D := D) (ci := 10) (v := .ref (q 15)) (C := RX10) (T := TX10) (N := 13) hx hb hts (fun _ h => List.mem_cons_of_mem _ (List.mem_append_left _ (List.mem_append_left _ (List.mem_append_right _ h)))) hown hK hw.1 0 rfl rfl 3 (by decide) (hts (.fieldLink RX10 31 "EggThrones" "now" "LEggThrones$Morning;") (List.mem_of_getElem? (i := 3) rfl)) (fun _ h9 => h9) rfl dX10_egg_93 ?_
      refine lv_iload_n hx hb dX10_egg_96 rfl (lv_at hl 1 rfl) ?_
      obtain ⟨r97, h97, hf⟩ := bd_s hf
      replace hf := bt_s hf
      refine gVi (As := [.int (zI x1)]) (rest := []) C hw (tX4_hardnessOf h97) (cwV 1 hts gX10_egg_X4_hardnessOf rfl rfl rfl (by decide +kernel) ⟨Nat.le_of_ble_eq_true rfl, Nat.le_of_ble_eq_true rfl⟩) 4 15 rfl rfl rfl hl.1 rfl (Nat.le_of_ble_eq_true rfl) dX10_egg_97 (fun H locs hw => ?_)
      cases hf
      exact hret H locs ls 100 dX10_egg_100 hw
    rw [if_neg c15_4] at hf
    by_cases c15_5 : x2 = 5
    · rw [if_pos c15_5] at hf
      refine lv_tableIn (off := 86) (tgt := 101) hx hb dX10_egg_15 (by rw [zI_toInt hg15, c15_5]; decide) (by rw [zI_toInt hg15, c15_5]; decide) (by rw [zI_toInt hg15, c15_5]; rfl) (by decide) ?_
      refine lv_aload_n hx hb dX10_egg_101 rfl (lv_at hl 0 rfl) ?_
      refine va_get (D := D) (ci := 10) (v := .ref (q 15)) (C := RX10) (T := TX10) (N := 13) hx hb hts (fun _ h => List.mem_cons_of_mem _ (List.mem_append_left _ (List.mem_append_left _ (List.mem_append_right _ h)))) hown hK hw.1 0 rfl rfl 3 (by decide) (hts (.fieldLink RX10 31 "EggThrones" "now" "LEggThrones$Morning;") (List.mem_of_getElem? (i := 3) rfl)) (fun _ h9 => h9) rfl dX10_egg_102 ?_
      refine lv_iload_n hx hb dX10_egg_105 rfl (lv_at hl 1 rfl) ?_
      obtain ⟨r106, h106, hf⟩ := bd_s hf
      replace hf := bt_s hf
      refine gVi (As := [.int (zI x1)]) (rest := []) C hw (tX4_reignOf h106) (cwV 1 hts gX10_egg_X4_reignOf rfl rfl rfl (by decide +kernel) ⟨Nat.le_of_ble_eq_true rfl, Nat.le_of_ble_eq_true rfl⟩) 4 15 rfl rfl rfl hl.1 rfl (Nat.le_of_ble_eq_true rfl) dX10_egg_106 (fun H locs hw => ?_)
      cases hf
      exact hret H locs ls 109 dX10_egg_109 hw
    rw [if_neg c15_5] at hf
    by_cases c15_6 : x2 = 6
    · rw [if_pos c15_6] at hf
      refine lv_tableIn (off := 95) (tgt := 110) hx hb dX10_egg_15 (by rw [zI_toInt hg15, c15_6]; decide) (by rw [zI_toInt hg15, c15_6]; decide) (by rw [zI_toInt hg15, c15_6]; rfl) (by decide) ?_
      refine lv_aload_n hx hb dX10_egg_110 rfl (lv_at hl 0 rfl) ?_
      refine va_get (D := D) (ci := 10) (v := .ref (q 1)) (C := RX10) (T := TX10) (N := 13) hx hb hts (fun _ h => List.mem_cons_of_mem _ (List.mem_append_left _ (List.mem_append_left _ (List.mem_append_right _ h)))) hown hK hw.1 0 rfl rfl 1 (by decide) (hts (.fieldLink RX10 19 "EggThrones" "laid" "LEggThrones$Table;") (List.mem_of_getElem? (i := 1) rfl)) (fun _ h9 => h9) rfl dX10_egg_111 ?_
      refine lv_iload_n hx hb dX10_egg_114 rfl (lv_at hl 1 rfl) ?_
      obtain ⟨r115, h115, hf⟩ := bd_s hf
      replace hf := bt_s hf
      refine gVi (As := [.int (zI x1)]) (rest := []) C hw (tX8_wishOf_c1 h115) (cwV 1 hts gX10_egg_X8_wishOf rfl rfl rfl (by decide +kernel) ⟨Nat.le_of_ble_eq_true rfl, Nat.le_of_ble_eq_true rfl⟩) 8 1 rfl rfl rfl hl.1 rfl (Nat.le_of_ble_eq_true rfl) dX10_egg_115 (fun H locs hw => ?_)
      cases hf
      exact hret H locs ls 118 dX10_egg_118 hw
    rw [if_neg c15_6] at hf
    refine lv_tableOut (tgt := 119) hx hb dX10_egg_15 (by rw [zI_toInt hg15]; omega) (by decide) ?_
    refine zv_ldc hx hb (-1000000002) (by decide +kernel) hown (hts (.constant RX10 95 (-1000000002)) (List.mem_of_getElem? (i := 4) rfl)) dX10_egg_119 ?_
    cases hf
    exact hret H locs ls 121 dX10_egg_121 hw
  · rw [if_pos c8] at hf
    refine zv_ldc hx hb (-1000000001) (by decide +kernel) hown (hts (.constant RX10 175 (-1000000001)) (List.mem_of_getElem? (i := 2) rfl)) dX10_egg_11 ?_
    cases hf
    exact hret H locs ls 13 dX10_egg_13 hw
set_option maxHeartbeats 4000000 in
set_option maxRecDepth 100000 in
theorem tX10_egg {l : Launch} {D : va_G} {A : Nat → Prop} {cI cZ : ClassId} {q : Nat → Nat} {σ : St} {x1 : Int} {x2 : Int} {r : Int} (hf : pX10_egg σ x1 x2 = some r) : Met l yX10_egg wsX10_egg rmX10_egg (va_Pc [.ref (q 0), .int (zI x1), .int (zI x2)] (CX D (TY cI cZ) A (wE q cI cZ σ))) (QI D (TY cI cZ) A (wE q cI cZ σ) (zI r)) 0 0 A := by
  refine opn (cc := cX10_egg) (maxL := 3) (ret := (some .int)) (by decide) rfl (Nat.le_of_ble_eq_true rfl) (fun p e s m below meth c C ls hw hl => ?_)
  have hl : lv_has ls 3 [(0, .ref (q 0)), (1, .int (zI x1)), (2, .int (zI x2))] := hl
  rw [pX10_egg] at hf
  exact wX10_egg_0 C (rtI C) x1 x2 _ _ ls hw (lv_sub hl [0, 1, 2] rfl) hf
abbrev rmX11_isEgg : Room := { frames := 1, cells := 0, slots := 0, locals := 25 }
set_option maxHeartbeats 4000000 in
set_option maxRecDepth 100000 in
theorem wX11_isEgg_0 {p : Program} {l : Launch} {e : Env} {s : State} {m : MethodId} {args : Array Value} {below : List Frame} {meth : Method} {c : Code} {D : va_G} {A : Nat → Prop} {q : Nat → Nat} {cI cZ : ClassId} {Q : State → Prop} {σ : St} {r : Int} (C : Cx p s m args meth c D (TY cI cZ) cX11_isEgg (some .boolean) 2 wsX11_isEgg RX11) (hret : RtZ p l e rmX11_isEgg s m args below meth c D A cX11_isEgg Q (wM q cI cZ σ) (zI r)) :
    ∀ (x1 : Int) (H : Heap) (locs : List Loc) (ls : Array Slot), Wd D A s (wM q cI cZ σ) H locs → lv_has ls 2 [(0, .ref (q 0)), (1, .int (zI x1))] → pX11_isEgg_0 σ x1 = some r → W p l e rmX11_isEgg s m args below meth c H locs 0 0 Q (F0 m 0 ls []) := by
  obtain ⟨hx, hb, hr, hml, hown, hts, hlk, hK, hN⟩ := id C
  intro x1 H locs ls hw hl hf
  rw [pX11_isEgg_0] at hf
  refine lv_iload_n hx hb dX11_isEgg_0 rfl (lv_at hl 1 rfl) ?_
  obtain ⟨hz1, hf⟩ := gd_s hf
  refine zv_i2l hx hb hz1 dX11_isEgg_1 ?_
  refine lv_lconst (v := zL 0) hx hb dX11_isEgg_2 (by decide +kernel) ?_
  refine lv_aload_n hx hb dX11_isEgg_3 rfl (lv_at hl 0 rfl) ?_
  refine va_get (D := D) (ci := 11) (v := .int (zI (σ.1 2))) (C := RX11) (T := TX11) (N := 40) hx hb hts (fun _ h => List.mem_cons_of_mem _ (List.mem_append_right _ h)) hown hK hw.1 0 rfl rfl 2 (by decide) (hts (.fieldLink RX11 93 "EggThronesModel" "eggs" "I") (List.mem_of_getElem? (i := 1) rfl)) (fun _ h9 => h9) rfl dX11_isEgg_4 ?_
  refine lv_iconst (v := zI 1) hx hb dX11_isEgg_7 rfl ?_
  refine zv_isub hx hb dX11_isEgg_8 ?_
  obtain ⟨hz9, hf⟩ := gd_s hf
  refine zv_i2l hx hb hz9 dX11_isEgg_9 ?_
  obtain ⟨r10, h10, hf⟩ := bd_s hf
  replace hf := bt_s hf
  refine gSi (As := [.long (zL x1), .long (zL 0), .long (zL ((σ.1 2) - 1))]) (rest := []) C hw (tX11_in h10) (va_cwS 3 hts gX11_isEgg_X11_in rfl rfl rfl (by decide +kernel) ⟨Nat.le_of_ble_eq_true rfl, Nat.le_of_ble_eq_true rfl⟩) rfl hl.1 rfl (Nat.le_of_ble_eq_true rfl) dX11_isEgg_10 (fun H locs hw => ?_)
  obtain ⟨hz13, hf⟩ := gd_s hf
  cases hf
  exact hret H locs ls 13 dX11_isEgg_13 (nz01 hz13) hw
set_option maxHeartbeats 4000000 in
set_option maxRecDepth 100000 in
theorem tX11_isEgg {l : Launch} {D : va_G} {A : Nat → Prop} {cI cZ : ClassId} {q : Nat → Nat} {σ : St} {x1 : Int} {r : Int} (hf : pX11_isEgg σ x1 = some r) : Met l yX11_isEgg wsX11_isEgg rmX11_isEgg (va_Pc [.ref (q 0), .int (zI x1)] (CX D (TY cI cZ) A (wM q cI cZ σ))) (QI D (TY cI cZ) A (wM q cI cZ σ) (zI r)) 0 0 A := by
  refine opn (cc := cX11_isEgg) (maxL := 2) (ret := (some .boolean)) (by decide) rfl (Nat.le_of_ble_eq_true rfl) (fun p e s m below meth c C ls hw hl => ?_)
  have hl : lv_has ls 2 [(0, .ref (q 0)), (1, .int (zI x1))] := hl
  rw [pX11_isEgg] at hf
  exact wX11_isEgg_0 C (rtZ C) x1 _ _ ls hw (lv_sub hl [0, 1] rfl) hf
abbrev rmX11_egg : Room := { frames := 3, cells := 0, slots := 0, locals := 66 }
set_option maxHeartbeats 4000000 in
set_option maxRecDepth 100000 in
theorem wX11_egg_0 {p : Program} {l : Launch} {e : Env} {s : State} {m : MethodId} {args : Array Value} {below : List Frame} {meth : Method} {c : Code} {D : va_G} {A : Nat → Prop} {q : Nat → Nat} {cI cZ : ClassId} {Q : State → Prop} {σ : St} {r : Int} (C : Cx p s m args meth c D (TY cI cZ) cX11_egg (some .int) 3 wsX11_egg RX11) (hret : RtI p l e rmX11_egg s m args below meth c D A cX11_egg Q (wM q cI cZ σ) (zI r)) :
    ∀ (x1 : Int) (x2 : Int) (H : Heap) (locs : List Loc) (ls : Array Slot), Wd D A s (wM q cI cZ σ) H locs → lv_has ls 3 [(0, .ref (q 0)), (1, .int (zI x1)), (2, .int (zI x2))] → pX11_egg_0 σ x1 x2 = some r → W p l e rmX11_egg s m args below meth c H locs 0 0 Q (F0 m 0 ls []) := by
  obtain ⟨hx, hb, hr, hml, hown, hts, hlk, hK, hN⟩ := id C
  intro x1 x2 H locs ls hw hl hf
  rw [pX11_egg_0] at hf
  refine lv_aload_n hx hb dX11_egg_0 rfl (lv_at hl 0 rfl) ?_
  refine lv_iload_n hx hb dX11_egg_1 rfl (lv_at hl 1 rfl) ?_
  obtain ⟨r2, h2, hf⟩ := bd_s hf
  replace hf := bt_s hf
  refine gVi (As := [.int (zI x1)]) (rest := []) C hw (tX11_isEgg h2) (cwV 1 hts gX11_egg_X11_isEgg rfl rfl rfl (by decide +kernel) ⟨Nat.le_of_ble_eq_true rfl, Nat.le_of_ble_eq_true rfl⟩) 11 0 rfl rfl rfl hl.1 rfl (Nat.le_of_ble_eq_true rfl) dX11_egg_2 (fun H locs hw => ?_)
  obtain ⟨hg5, hf⟩ := gd_s hf
  refine zv_if_ne (tgt := 11) hx hb hg5 dX11_egg_5 (by decide) (fun (c5 : ¬ (r2 = 0)) => ?_) (fun (c5 : r2 = 0) => ?_)
  · rw [if_neg c5] at hf
    refine lv_iload_n hx hb dX11_egg_11 rfl (lv_at hl 2 rfl) ?_
    obtain ⟨hg12, hf⟩ := gd_s hf
    by_cases c12_0 : x2 = 0
    · rw [if_pos c12_0] at hf
      refine lv_tableIn (off := 44) (tgt := 56) hx hb dX11_egg_12 (by rw [zI_toInt hg12, c12_0]; decide) (by rw [zI_toInt hg12, c12_0]; decide) (by rw [zI_toInt hg12, c12_0]; rfl) (by decide) ?_
      refine lv_aload_n hx hb dX11_egg_56 rfl (lv_at hl 0 rfl) ?_
      refine va_get (D := D) (ci := 11) (v := .ref (q 1)) (C := RX11) (T := TX11) (N := 40) hx hb hts (fun _ h => List.mem_cons_of_mem _ (List.mem_append_right _ h)) hown hK hw.1 0 rfl rfl 3 (by decide) (hts (.fieldLink RX11 7 "EggThronesModel" "age" "[I") (List.mem_of_getElem? (i := 2) rfl)) (fun _ h9 => h9) rfl dX11_egg_57 ?_
      refine lv_iload_n hx hb dX11_egg_60 rfl (lv_at hl 1 rfl) ?_
      obtain ⟨hi61, hf⟩ := gd_s hf
      refine zv_iald (D := D) hx hb hK hw.1 1 0 rfl rfl hi61 (by decide) dX11_egg_61 ?_
      cases hf
      exact hret H locs ls 62 dX11_egg_62 hw
    rw [if_neg c12_0] at hf
    by_cases c12_1 : x2 = 1
    · rw [if_pos c12_1] at hf
      refine lv_tableIn (off := 51) (tgt := 63) hx hb dX11_egg_12 (by rw [zI_toInt hg12, c12_1]; decide) (by rw [zI_toInt hg12, c12_1]; decide) (by rw [zI_toInt hg12, c12_1]; rfl) (by decide) ?_
      refine lv_aload_n hx hb dX11_egg_63 rfl (lv_at hl 0 rfl) ?_
      refine va_get (D := D) (ci := 11) (v := .ref (q 2)) (C := RX11) (T := TX11) (N := 40) hx hb hts (fun _ h => List.mem_cons_of_mem _ (List.mem_append_right _ h)) hown hK hw.1 0 rfl rfl 4 (by decide) (hts (.fieldLink RX11 13 "EggThronesModel" "size" "[I") (List.mem_of_getElem? (i := 3) rfl)) (fun _ h9 => h9) rfl dX11_egg_64 ?_
      refine lv_iload_n hx hb dX11_egg_67 rfl (lv_at hl 1 rfl) ?_
      obtain ⟨hi68, hf⟩ := gd_s hf
      refine zv_iald (D := D) hx hb hK hw.1 2 0 rfl rfl hi68 (by decide) dX11_egg_68 ?_
      cases hf
      exact hret H locs ls 69 dX11_egg_69 hw
    rw [if_neg c12_1] at hf
    by_cases c12_2 : x2 = 2
    · rw [if_pos c12_2] at hf
      refine lv_tableIn (off := 58) (tgt := 70) hx hb dX11_egg_12 (by rw [zI_toInt hg12, c12_2]; decide) (by rw [zI_toInt hg12, c12_2]; decide) (by rw [zI_toInt hg12, c12_2]; rfl) (by decide) ?_
      refine lv_aload_n hx hb dX11_egg_70 rfl (lv_at hl 0 rfl) ?_
      refine va_get (D := D) (ci := 11) (v := .ref (q 6)) (C := RX11) (T := TX11) (N := 40) hx hb hts (fun _ h => List.mem_cons_of_mem _ (List.mem_append_right _ h)) hown hK hw.1 0 rfl rfl 9 (by decide) (hts (.fieldLink RX11 25 "EggThronesModel" "now" "[I") (List.mem_of_getElem? (i := 4) rfl)) (fun _ h9 => h9) rfl dX11_egg_71 ?_
      refine lv_iload_n hx hb dX11_egg_74 rfl (lv_at hl 1 rfl) ?_
      obtain ⟨hi75, hf⟩ := gd_s hf
      refine zv_iald (D := D) hx hb hK hw.1 6 0 rfl rfl hi75 (by decide) dX11_egg_75 ?_
      cases hf
      exact hret H locs ls 76 dX11_egg_76 hw
    rw [if_neg c12_2] at hf
    by_cases c12_3 : x2 = 3
    · rw [if_pos c12_3] at hf
      refine lv_tableIn (off := 65) (tgt := 77) hx hb dX11_egg_12 (by rw [zI_toInt hg12, c12_3]; decide) (by rw [zI_toInt hg12, c12_3]; decide) (by rw [zI_toInt hg12, c12_3]; rfl) (by decide) ?_
      refine lv_aload_n hx hb dX11_egg_77 rfl (lv_at hl 0 rfl) ?_
      refine va_get (D := D) (ci := 11) (v := .ref (q 6)) (C := RX11) (T := TX11) (N := 40) hx hb hts (fun _ h => List.mem_cons_of_mem _ (List.mem_append_right _ h)) hown hK hw.1 0 rfl rfl 9 (by decide) (hts (.fieldLink RX11 25 "EggThronesModel" "now" "[I") (List.mem_of_getElem? (i := 4) rfl)) (fun _ h9 => h9) rfl dX11_egg_78 ?_
      refine lv_bipush (v := zI 7) hx hb dX11_egg_81 (by decide +kernel) ?_
      refine lv_iload_n hx hb dX11_egg_83 rfl (lv_at hl 1 rfl) ?_
      refine zv_iadd hx hb dX11_egg_84 ?_
      obtain ⟨hi85, hf⟩ := gd_s hf
      refine zv_iald (D := D) hx hb hK hw.1 6 0 rfl rfl hi85 (by decide) dX11_egg_85 ?_
      cases hf
      exact hret H locs ls 86 dX11_egg_86 hw
    rw [if_neg c12_3] at hf
    by_cases c12_4 : x2 = 4
    · rw [if_pos c12_4] at hf
      refine lv_tableIn (off := 75) (tgt := 87) hx hb dX11_egg_12 (by rw [zI_toInt hg12, c12_4]; decide) (by rw [zI_toInt hg12, c12_4]; decide) (by rw [zI_toInt hg12, c12_4]; rfl) (by decide) ?_
      refine lv_aload_n hx hb dX11_egg_87 rfl (lv_at hl 0 rfl) ?_
      refine lv_iload_n hx hb dX11_egg_88 rfl (lv_at hl 1 rfl) ?_
      obtain ⟨r89, h89, hf⟩ := bd_s hf
      replace hf := bt_s hf
      refine gVi (As := [.int (zI x1)]) (rest := []) C hw (tX11_hard h89) (cwV 1 hts gX11_egg_X11_hard rfl rfl rfl (by decide +kernel) ⟨Nat.le_of_ble_eq_true rfl, Nat.le_of_ble_eq_true rfl⟩) 11 0 rfl rfl rfl hl.1 rfl (Nat.le_of_ble_eq_true rfl) dX11_egg_89 (fun H locs hw => ?_)
      cases hf
      exact hret H locs ls 92 dX11_egg_92 hw
    rw [if_neg c12_4] at hf
    by_cases c12_5 : x2 = 5
    · rw [if_pos c12_5] at hf
      refine lv_tableIn (off := 81) (tgt := 93) hx hb dX11_egg_12 (by rw [zI_toInt hg12, c12_5]; decide) (by rw [zI_toInt hg12, c12_5]; decide) (by rw [zI_toInt hg12, c12_5]; rfl) (by decide) ?_
      refine lv_aload_n hx hb dX11_egg_93 rfl (lv_at hl 0 rfl) ?_
      refine lv_iload_n hx hb dX11_egg_94 rfl (lv_at hl 1 rfl) ?_
      obtain ⟨r95, h95, hf⟩ := bd_s hf
      replace hf := bt_s hf
      refine gVi (As := [.int (zI x1)]) (rest := []) C hw (tX11_reign h95) (cwV 1 hts gX11_egg_X11_reign rfl rfl rfl (by decide +kernel) ⟨Nat.le_of_ble_eq_true rfl, Nat.le_of_ble_eq_true rfl⟩) 11 0 rfl rfl rfl hl.1 rfl (Nat.le_of_ble_eq_true rfl) dX11_egg_95 (fun H locs hw => ?_)
      cases hf
      exact hret H locs ls 98 dX11_egg_98 hw
    rw [if_neg c12_5] at hf
    by_cases c12_6 : x2 = 6
    · rw [if_pos c12_6] at hf
      refine lv_tableIn (off := 87) (tgt := 99) hx hb dX11_egg_12 (by rw [zI_toInt hg12, c12_6]; decide) (by rw [zI_toInt hg12, c12_6]; decide) (by rw [zI_toInt hg12, c12_6]; rfl) (by decide) ?_
      refine lv_aload_n hx hb dX11_egg_99 rfl (lv_at hl 0 rfl) ?_
      refine va_get (D := D) (ci := 11) (v := .ref (q 5)) (C := RX11) (T := TX11) (N := 40) hx hb hts (fun _ h => List.mem_cons_of_mem _ (List.mem_append_right _ h)) hown hK hw.1 0 rfl rfl 8 (by decide) (hts (.fieldLink RX11 22 "EggThronesModel" "wishes" "[I") (List.mem_of_getElem? (i := 5) rfl)) (fun _ h9 => h9) rfl dX11_egg_100 ?_
      refine lv_iload_n hx hb dX11_egg_103 rfl (lv_at hl 1 rfl) ?_
      obtain ⟨hi104, hf⟩ := gd_s hf
      refine zv_iald (D := D) hx hb hK hw.1 5 0 rfl rfl hi104 (by decide) dX11_egg_104 ?_
      cases hf
      exact hret H locs ls 105 dX11_egg_105 hw
    rw [if_neg c12_6] at hf
    refine lv_tableOut (tgt := 106) hx hb dX11_egg_12 (by rw [zI_toInt hg12]; omega) (by decide) ?_
    refine zv_ldc hx hb (-1000000002) (by decide +kernel) hown (hts (.constant RX11 105 (-1000000002)) (List.mem_of_getElem? (i := 6) rfl)) dX11_egg_106 ?_
    cases hf
    exact hret H locs ls 108 dX11_egg_108 hw
  · rw [if_pos c5] at hf
    refine zv_ldc hx hb (-1000000001) (by decide +kernel) hown (hts (.constant RX11 200 (-1000000001)) (List.mem_of_getElem? (i := 1) rfl)) dX11_egg_8 ?_
    cases hf
    exact hret H locs ls 10 dX11_egg_10 hw
set_option maxHeartbeats 4000000 in
set_option maxRecDepth 100000 in
theorem tX11_egg {l : Launch} {D : va_G} {A : Nat → Prop} {cI cZ : ClassId} {q : Nat → Nat} {σ : St} {x1 : Int} {x2 : Int} {r : Int} (hf : pX11_egg σ x1 x2 = some r) : Met l yX11_egg wsX11_egg rmX11_egg (va_Pc [.ref (q 0), .int (zI x1), .int (zI x2)] (CX D (TY cI cZ) A (wM q cI cZ σ))) (QI D (TY cI cZ) A (wM q cI cZ σ) (zI r)) 0 0 A := by
  refine opn (cc := cX11_egg) (maxL := 3) (ret := (some .int)) (by decide) rfl (Nat.le_of_ble_eq_true rfl) (fun p e s m below meth c C ls hw hl => ?_)
  have hl : lv_has ls 3 [(0, .ref (q 0)), (1, .int (zI x1)), (2, .int (zI x2))] := hl
  rw [pX11_egg] at hf
  exact wX11_egg_0 C (rtI C) x1 x2 _ _ ls hw (lv_sub hl [0, 1, 2] rfl) hf
abbrev rmX8_hasEater_c1 : Room := { frames := 0, cells := 0, slots := 0, locals := 0 }
set_option maxHeartbeats 4000000 in
set_option maxRecDepth 100000 in
theorem wX8_hasEater_c1_0 {p : Program} {l : Launch} {e : Env} {s : State} {m : MethodId} {args : Array Value} {below : List Frame} {meth : Method} {c : Code} {D : va_G} {A : Nat → Prop} {q : Nat → Nat} {cI cZ : ClassId} {Q : State → Prop} {σ : St} {r : Int} (C : Cx p s m args meth c D (TY cI cZ) cX8_hasEater (some .boolean) 2 wsX8_hasEater RX8) (hret : RtZ p l e rmX8_hasEater_c1 s m args below meth c D A cX8_hasEater Q (wE q cI cZ σ) (zI r)) :
    ∀ (x1 : Int) (H : Heap) (locs : List Loc) (ls : Array Slot), Wd D A s (wE q cI cZ σ) H locs → lv_has ls 2 [(0, .ref (q 1)), (1, .int (zI x1))] → pX8_hasEater_c1_0 σ x1 = some r → W p l e rmX8_hasEater_c1 s m args below meth c H locs 0 0 Q (F0 m 0 ls []) := by
  obtain ⟨hx, hb, hr, hml, hown, hts, hlk, hK, hN⟩ := id C
  intro x1 H locs ls hw hl hf
  rw [pX8_hasEater_c1_0] at hf
  refine lv_iload_n hx hb dX8_hasEater_0 rfl (lv_at hl 1 rfl) ?_
  obtain ⟨hg1, hf⟩ := gd_s hf
  refine zv_if_lt (tgt := 21) hx hb hg1 dX8_hasEater_1 (by decide) (fun (c1 : x1 < 0) => ?_) (fun (c1 : ¬ (x1 < 0)) => ?_)
  · rw [if_pos c1] at hf
    refine lv_iconst (v := zI 0) hx hb dX8_hasEater_21 rfl ?_
    cases hf
    exact hret H locs ls 22 dX8_hasEater_22 (by decide +kernel) hw
  · rw [if_neg c1] at hf
    refine lv_iload_n hx hb dX8_hasEater_4 rfl (lv_at hl 1 rfl) ?_
    refine lv_aload_n hx hb dX8_hasEater_5 rfl (lv_at hl 0 rfl) ?_
    refine va_get (D := D) (ci := 8) (v := .int (zI (σ.1 6))) (C := RX8) (T := TX8) (N := 10) hx hb hts (fun _ h => List.mem_cons_of_mem _ (List.mem_append_right _ h)) hown hK hw.1 1 rfl rfl 4 (by decide) (hts (.fieldLink RX8 40 "EggThrones$Table" "eaters" "I") (List.mem_of_getElem? (i := 1) rfl)) (fun _ h9 => h9) rfl dX8_hasEater_6 ?_
    obtain ⟨hg9, hf⟩ := gd_s hf
    refine zv_icmp_ge (tgt := 21) hx hb hg9 dX8_hasEater_9 (by decide) (fun (c9 : (σ.1 6) ≤ x1) => ?_) (fun (c9 : ¬ ((σ.1 6) ≤ x1)) => ?_)
    · rw [if_pos c9] at hf
      refine lv_iconst (v := zI 0) hx hb dX8_hasEater_21 rfl ?_
      cases hf
      exact hret H locs ls 22 dX8_hasEater_22 (by decide +kernel) hw
    · rw [if_neg c9] at hf
      refine lv_iload_n hx hb dX8_hasEater_12 rfl (lv_at hl 1 rfl) ?_
      refine lv_iconst (v := zI 5) hx hb dX8_hasEater_13 rfl ?_
      obtain ⟨hg14, hf⟩ := gd_s hf
      refine zv_icmp_ge (tgt := 21) hx hb ⟨hg14, by decide⟩ dX8_hasEater_14 (by decide) (fun (c14 : 5 ≤ x1) => ?_) (fun (c14 : ¬ (5 ≤ x1)) => ?_)
      · rw [if_pos c14] at hf
        refine lv_iconst (v := zI 0) hx hb dX8_hasEater_21 rfl ?_
        cases hf
        exact hret H locs ls 22 dX8_hasEater_22 (by decide +kernel) hw
      · rw [if_neg c14] at hf
        refine lv_iconst (v := zI 1) hx hb dX8_hasEater_17 rfl ?_
        refine lv_goto (tgt := 22) hx hb dX8_hasEater_18 (by decide) ?_
        cases hf
        exact hret H locs ls 22 dX8_hasEater_22 (by decide +kernel) hw
set_option maxHeartbeats 4000000 in
set_option maxRecDepth 100000 in
theorem tX8_hasEater_c1 {l : Launch} {D : va_G} {A : Nat → Prop} {cI cZ : ClassId} {q : Nat → Nat} {σ : St} {x1 : Int} {r : Int} (hf : pX8_hasEater_c1 σ x1 = some r) : Met l yX8_hasEater wsX8_hasEater rmX8_hasEater_c1 (va_Pc [.ref (q 1), .int (zI x1)] (CX D (TY cI cZ) A (wE q cI cZ σ))) (QI D (TY cI cZ) A (wE q cI cZ σ) (zI r)) 0 0 A := by
  refine opn (cc := cX8_hasEater) (maxL := 2) (ret := (some .boolean)) (by decide) rfl (Nat.le_of_ble_eq_true rfl) (fun p e s m below meth c C ls hw hl => ?_)
  have hl : lv_has ls 2 [(0, .ref (q 1)), (1, .int (zI x1))] := hl
  rw [pX8_hasEater_c1] at hf
  exact wX8_hasEater_c1_0 C (rtZ C) x1 _ _ ls hw (lv_sub hl [0, 1] rfl) hf
abbrev rmX8_softestFor_c1 : Room := { frames := 1, cells := 0, slots := 0, locals := 21 }
set_option maxHeartbeats 4000000 in
set_option maxRecDepth 100000 in
theorem wX8_softestFor_c1_0 {p : Program} {l : Launch} {e : Env} {s : State} {m : MethodId} {args : Array Value} {below : List Frame} {meth : Method} {c : Code} {D : va_G} {A : Nat → Prop} {q : Nat → Nat} {cI cZ : ClassId} {Q : State → Prop} {σ : St} {r : Int} (C : Cx p s m args meth c D (TY cI cZ) cX8_softestFor (some .int) 2 wsX8_softestFor RX8) (hret : RtI p l e rmX8_softestFor_c1 s m args below meth c D A cX8_softestFor Q (wE q cI cZ σ) (zI r)) :
    ∀ (x1 : Int) (H : Heap) (locs : List Loc) (ls : Array Slot), Wd D A s (wE q cI cZ σ) H locs → lv_has ls 2 [(0, .ref (q 1)), (1, .int (zI x1))] → pX8_softestFor_c1_0 σ x1 = some r → W p l e rmX8_softestFor_c1 s m args below meth c H locs 0 0 Q (F0 m 0 ls []) := by
  obtain ⟨hx, hb, hr, hml, hown, hts, hlk, hK, hN⟩ := id C
  intro x1 H locs ls hw hl hf
  rw [pX8_softestFor_c1_0] at hf
  refine lv_aload_n hx hb dX8_softestFor_0 rfl (lv_at hl 0 rfl) ?_
  refine lv_iload_n hx hb dX8_softestFor_1 rfl (lv_at hl 1 rfl) ?_
  obtain ⟨r2, h2, hf⟩ := bd_s hf
  replace hf := bt_s hf
  refine gVi (As := [.int (zI x1)]) (rest := []) C hw (tX8_hasEater_c1 h2) (cwV 1 hts gX8_softestFor_X8_hasEater rfl rfl rfl (by decide +kernel) ⟨Nat.le_of_ble_eq_true rfl, Nat.le_of_ble_eq_true rfl⟩) 8 1 rfl rfl rfl hl.1 rfl (Nat.le_of_ble_eq_true rfl) dX8_softestFor_2 (fun H locs hw => ?_)
  obtain ⟨hg5, hf⟩ := gd_s hf
  refine zv_if_eq (tgt := 17) hx hb hg5 dX8_softestFor_5 (by decide) (fun (c5 : r2 = 0) => ?_) (fun (c5 : ¬ (r2 = 0)) => ?_)
  · rw [if_pos c5] at hf
    refine lv_iconst (v := zI 0) hx hb dX8_softestFor_17 rfl ?_
    cases hf
    exact hret H locs ls 18 dX8_softestFor_18 hw
  · rw [if_neg c5] at hf
    refine lv_aload_n hx hb dX8_softestFor_8 rfl (lv_at hl 0 rfl) ?_
    refine va_get (D := D) (ci := 8) (v := .ref (q 5)) (C := RX8) (T := TX8) (N := 10) hx hb hts (fun _ h => List.mem_cons_of_mem _ (List.mem_append_right _ h)) hown hK hw.1 1 rfl rfl 8 (by decide) (hts (.fieldLink RX8 21 "EggThrones$Table" "softest" "[I") (List.mem_of_getElem? (i := 1) rfl)) (fun _ h9 => h9) rfl dX8_softestFor_9 ?_
    refine lv_iload_n hx hb dX8_softestFor_12 rfl (lv_at hl 1 rfl) ?_
    obtain ⟨hi13, hf⟩ := gd_s hf
    refine zv_iald (D := D) hx hb hK hw.1 5 0 rfl rfl hi13 (by decide) dX8_softestFor_13 ?_
    refine lv_goto (tgt := 18) hx hb dX8_softestFor_14 (by decide) ?_
    cases hf
    exact hret H locs ls 18 dX8_softestFor_18 hw
set_option maxHeartbeats 4000000 in
set_option maxRecDepth 100000 in
theorem tX8_softestFor_c1 {l : Launch} {D : va_G} {A : Nat → Prop} {cI cZ : ClassId} {q : Nat → Nat} {σ : St} {x1 : Int} {r : Int} (hf : pX8_softestFor_c1 σ x1 = some r) : Met l yX8_softestFor wsX8_softestFor rmX8_softestFor_c1 (va_Pc [.ref (q 1), .int (zI x1)] (CX D (TY cI cZ) A (wE q cI cZ σ))) (QI D (TY cI cZ) A (wE q cI cZ σ) (zI r)) 0 0 A := by
  refine opn (cc := cX8_softestFor) (maxL := 2) (ret := (some .int)) (by decide) rfl (Nat.le_of_ble_eq_true rfl) (fun p e s m below meth c C ls hw hl => ?_)
  have hl : lv_has ls 2 [(0, .ref (q 1)), (1, .int (zI x1))] := hl
  rw [pX8_softestFor_c1] at hf
  exact wX8_softestFor_c1_0 C (rtI C) x1 _ _ ls hw (lv_sub hl [0, 1] rfl) hf
abbrev rmX8_hardestFor_c1 : Room := { frames := 1, cells := 0, slots := 0, locals := 21 }
set_option maxHeartbeats 4000000 in
set_option maxRecDepth 100000 in
theorem wX8_hardestFor_c1_0 {p : Program} {l : Launch} {e : Env} {s : State} {m : MethodId} {args : Array Value} {below : List Frame} {meth : Method} {c : Code} {D : va_G} {A : Nat → Prop} {q : Nat → Nat} {cI cZ : ClassId} {Q : State → Prop} {σ : St} {r : Int} (C : Cx p s m args meth c D (TY cI cZ) cX8_hardestFor (some .int) 2 wsX8_hardestFor RX8) (hret : RtI p l e rmX8_hardestFor_c1 s m args below meth c D A cX8_hardestFor Q (wE q cI cZ σ) (zI r)) :
    ∀ (x1 : Int) (H : Heap) (locs : List Loc) (ls : Array Slot), Wd D A s (wE q cI cZ σ) H locs → lv_has ls 2 [(0, .ref (q 1)), (1, .int (zI x1))] → pX8_hardestFor_c1_0 σ x1 = some r → W p l e rmX8_hardestFor_c1 s m args below meth c H locs 0 0 Q (F0 m 0 ls []) := by
  obtain ⟨hx, hb, hr, hml, hown, hts, hlk, hK, hN⟩ := id C
  intro x1 H locs ls hw hl hf
  rw [pX8_hardestFor_c1_0] at hf
  refine lv_aload_n hx hb dX8_hardestFor_0 rfl (lv_at hl 0 rfl) ?_
  refine lv_iload_n hx hb dX8_hardestFor_1 rfl (lv_at hl 1 rfl) ?_
  obtain ⟨r2, h2, hf⟩ := bd_s hf
  replace hf := bt_s hf
  refine gVi (As := [.int (zI x1)]) (rest := []) C hw (tX8_hasEater_c1 h2) (cwV 1 hts gX8_hardestFor_X8_hasEater rfl rfl rfl (by decide +kernel) ⟨Nat.le_of_ble_eq_true rfl, Nat.le_of_ble_eq_true rfl⟩) 8 1 rfl rfl rfl hl.1 rfl (Nat.le_of_ble_eq_true rfl) dX8_hardestFor_2 (fun H locs hw => ?_)
  obtain ⟨hg5, hf⟩ := gd_s hf
  refine zv_if_eq (tgt := 17) hx hb hg5 dX8_hardestFor_5 (by decide) (fun (c5 : r2 = 0) => ?_) (fun (c5 : ¬ (r2 = 0)) => ?_)
  · rw [if_pos c5] at hf
    refine lv_iconst (v := zI 0) hx hb dX8_hardestFor_17 rfl ?_
    cases hf
    exact hret H locs ls 18 dX8_hardestFor_18 hw
  · rw [if_neg c5] at hf
    refine lv_aload_n hx hb dX8_hardestFor_8 rfl (lv_at hl 0 rfl) ?_
    refine va_get (D := D) (ci := 8) (v := .ref (q 6)) (C := RX8) (T := TX8) (N := 10) hx hb hts (fun _ h => List.mem_cons_of_mem _ (List.mem_append_right _ h)) hown hK hw.1 1 rfl rfl 9 (by decide) (hts (.fieldLink RX8 24 "EggThrones$Table" "hardest" "[I") (List.mem_of_getElem? (i := 1) rfl)) (fun _ h9 => h9) rfl dX8_hardestFor_9 ?_
    refine lv_iload_n hx hb dX8_hardestFor_12 rfl (lv_at hl 1 rfl) ?_
    obtain ⟨hi13, hf⟩ := gd_s hf
    refine zv_iald (D := D) hx hb hK hw.1 6 0 rfl rfl hi13 (by decide) dX8_hardestFor_13 ?_
    refine lv_goto (tgt := 18) hx hb dX8_hardestFor_14 (by decide) ?_
    cases hf
    exact hret H locs ls 18 dX8_hardestFor_18 hw
set_option maxHeartbeats 4000000 in
set_option maxRecDepth 100000 in
theorem tX8_hardestFor_c1 {l : Launch} {D : va_G} {A : Nat → Prop} {cI cZ : ClassId} {q : Nat → Nat} {σ : St} {x1 : Int} {r : Int} (hf : pX8_hardestFor_c1 σ x1 = some r) : Met l yX8_hardestFor wsX8_hardestFor rmX8_hardestFor_c1 (va_Pc [.ref (q 1), .int (zI x1)] (CX D (TY cI cZ) A (wE q cI cZ σ))) (QI D (TY cI cZ) A (wE q cI cZ σ) (zI r)) 0 0 A := by
  refine opn (cc := cX8_hardestFor) (maxL := 2) (ret := (some .int)) (by decide) rfl (Nat.le_of_ble_eq_true rfl) (fun p e s m below meth c C ls hw hl => ?_)
  have hl : lv_has ls 2 [(0, .ref (q 1)), (1, .int (zI x1))] := hl
  rw [pX8_hardestFor_c1] at hf
  exact wX8_hardestFor_c1_0 C (rtI C) x1 _ _ ls hw (lv_sub hl [0, 1] rfl) hf
abbrev rmX10_eater : Room := { frames := 2, cells := 0, slots := 0, locals := 42 }
set_option maxHeartbeats 4000000 in
set_option maxRecDepth 100000 in
theorem wX10_eater_0 {p : Program} {l : Launch} {e : Env} {s : State} {m : MethodId} {args : Array Value} {below : List Frame} {meth : Method} {c : Code} {D : va_G} {A : Nat → Prop} {q : Nat → Nat} {cI cZ : ClassId} {Q : State → Prop} {σ : St} {r : Int} (C : Cx p s m args meth c D (TY cI cZ) cX10_eater (some .int) 3 wsX10_eater RX10) (hret : RtI p l e rmX10_eater s m args below meth c D A cX10_eater Q (wE q cI cZ σ) (zI r)) :
    ∀ (x1 : Int) (x2 : Int) (H : Heap) (locs : List Loc) (ls : Array Slot), Wd D A s (wE q cI cZ σ) H locs → lv_has ls 3 [(0, .ref (q 0)), (1, .int (zI x1)), (2, .int (zI x2))] → pX10_eater_0 σ x1 x2 = some r → W p l e rmX10_eater s m args below meth c H locs 0 0 Q (F0 m 0 ls []) := by
  obtain ⟨hx, hb, hr, hml, hown, hts, hlk, hK, hN⟩ := id C
  intro x1 x2 H locs ls hw hl hf
  rw [pX10_eater_0] at hf
  refine lv_aload_n hx hb dX10_eater_0 rfl (lv_at hl 0 rfl) ?_
  refine va_get (D := D) (ci := 10) (v := .ref (q 1)) (C := RX10) (T := TX10) (N := 13) hx hb hts (fun _ h => List.mem_cons_of_mem _ (List.mem_append_left _ (List.mem_append_right _ h))) hown hK hw.1 0 rfl rfl 1 (by decide) (hts (.fieldLink RX10 19 "EggThrones" "laid" "LEggThrones$Table;") (List.mem_of_getElem? (i := 1) rfl)) (fun _ h9 => h9) rfl dX10_eater_1 ?_
  refine lv_iload_n hx hb dX10_eater_4 rfl (lv_at hl 1 rfl) ?_
  obtain ⟨r5, h5, hf⟩ := bd_s hf
  replace hf := bt_s hf
  refine gVi (As := [.int (zI x1)]) (rest := []) C hw (tX8_hasEater_c1 h5) (cwV 1 hts gX10_eater_X8_hasEater rfl rfl rfl (by decide +kernel) ⟨Nat.le_of_ble_eq_true rfl, Nat.le_of_ble_eq_true rfl⟩) 8 1 rfl rfl rfl hl.1 rfl (Nat.le_of_ble_eq_true rfl) dX10_eater_5 (fun H locs hw => ?_)
  obtain ⟨hg8, hf⟩ := gd_s hf
  refine zv_if_ne (tgt := 14) hx hb hg8 dX10_eater_8 (by decide) (fun (c8 : ¬ (r5 = 0)) => ?_) (fun (c8 : r5 = 0) => ?_)
  · rw [if_neg c8] at hf
    refine lv_iload_n hx hb dX10_eater_14 rfl (lv_at hl 2 rfl) ?_
    obtain ⟨hg15, hf⟩ := gd_s hf
    by_cases c15_0 : x2 = 0
    · rw [if_pos c15_0] at hf
      refine lv_lookup (off := 25) (tgt := 40) hx hb dX10_eater_15 (by decide) (by rw [zI_toInt hg15, c15_0]; decide) (by decide) ?_
      refine lv_aload_n hx hb dX10_eater_40 rfl (lv_at hl 0 rfl) ?_
      refine va_get (D := D) (ci := 10) (v := .ref (q 1)) (C := RX10) (T := TX10) (N := 13) hx hb hts (fun _ h => List.mem_cons_of_mem _ (List.mem_append_left _ (List.mem_append_right _ h))) hown hK hw.1 0 rfl rfl 1 (by decide) (hts (.fieldLink RX10 19 "EggThrones" "laid" "LEggThrones$Table;") (List.mem_of_getElem? (i := 1) rfl)) (fun _ h9 => h9) rfl dX10_eater_41 ?_
      refine lv_iload_n hx hb dX10_eater_44 rfl (lv_at hl 1 rfl) ?_
      obtain ⟨r45, h45, hf⟩ := bd_s hf
      replace hf := bt_s hf
      refine gVi (As := [.int (zI x1)]) (rest := []) C hw (tX8_softestFor_c1 h45) (cwV 1 hts gX10_eater_X8_softestFor rfl rfl rfl (by decide +kernel) ⟨Nat.le_of_ble_eq_true rfl, Nat.le_of_ble_eq_true rfl⟩) 8 1 rfl rfl rfl hl.1 rfl (Nat.le_of_ble_eq_true rfl) dX10_eater_45 (fun H locs hw => ?_)
      cases hf
      exact hret H locs ls 48 dX10_eater_48 hw
    rw [if_neg c15_0] at hf
    by_cases c15_1 : x2 = 1
    · rw [if_pos c15_1] at hf
      refine lv_lookup (off := 34) (tgt := 49) hx hb dX10_eater_15 (by decide) (by rw [zI_toInt hg15, c15_1]; decide) (by decide) ?_
      refine lv_aload_n hx hb dX10_eater_49 rfl (lv_at hl 0 rfl) ?_
      refine va_get (D := D) (ci := 10) (v := .ref (q 1)) (C := RX10) (T := TX10) (N := 13) hx hb hts (fun _ h => List.mem_cons_of_mem _ (List.mem_append_left _ (List.mem_append_right _ h))) hown hK hw.1 0 rfl rfl 1 (by decide) (hts (.fieldLink RX10 19 "EggThrones" "laid" "LEggThrones$Table;") (List.mem_of_getElem? (i := 1) rfl)) (fun _ h9 => h9) rfl dX10_eater_50 ?_
      refine lv_iload_n hx hb dX10_eater_53 rfl (lv_at hl 1 rfl) ?_
      obtain ⟨r54, h54, hf⟩ := bd_s hf
      replace hf := bt_s hf
      refine gVi (As := [.int (zI x1)]) (rest := []) C hw (tX8_hardestFor_c1 h54) (cwV 1 hts gX10_eater_X8_hardestFor rfl rfl rfl (by decide +kernel) ⟨Nat.le_of_ble_eq_true rfl, Nat.le_of_ble_eq_true rfl⟩) 8 1 rfl rfl rfl hl.1 rfl (Nat.le_of_ble_eq_true rfl) dX10_eater_54 (fun H locs hw => ?_)
      cases hf
      exact hret H locs ls 57 dX10_eater_57 hw
    rw [if_neg c15_1] at hf
    refine lv_lookup (off := 43) (tgt := 58) hx hb dX10_eater_15 (by decide) (by rw [zI_toInt hg15]; simp [Op.lookupswitch.offset, c15_0, Ne.symm c15_0, c15_1, Ne.symm c15_1]) (by decide) ?_
    refine zv_ldc hx hb (-1000000002) (by decide +kernel) hown (hts (.constant RX10 95 (-1000000002)) (List.mem_of_getElem? (i := 3) rfl)) dX10_eater_58 ?_
    cases hf
    exact hret H locs ls 60 dX10_eater_60 hw
  · rw [if_pos c8] at hf
    refine zv_ldc hx hb (-1000000001) (by decide +kernel) hown (hts (.constant RX10 175 (-1000000001)) (List.mem_of_getElem? (i := 2) rfl)) dX10_eater_11 ?_
    cases hf
    exact hret H locs ls 13 dX10_eater_13 hw
set_option maxHeartbeats 4000000 in
set_option maxRecDepth 100000 in
theorem tX10_eater {l : Launch} {D : va_G} {A : Nat → Prop} {cI cZ : ClassId} {q : Nat → Nat} {σ : St} {x1 : Int} {x2 : Int} {r : Int} (hf : pX10_eater σ x1 x2 = some r) : Met l yX10_eater wsX10_eater rmX10_eater (va_Pc [.ref (q 0), .int (zI x1), .int (zI x2)] (CX D (TY cI cZ) A (wE q cI cZ σ))) (QI D (TY cI cZ) A (wE q cI cZ σ) (zI r)) 0 0 A := by
  refine opn (cc := cX10_eater) (maxL := 3) (ret := (some .int)) (by decide) rfl (Nat.le_of_ble_eq_true rfl) (fun p e s m below meth c C ls hw hl => ?_)
  have hl : lv_has ls 3 [(0, .ref (q 0)), (1, .int (zI x1)), (2, .int (zI x2))] := hl
  rw [pX10_eater] at hf
  exact wX10_eater_0 C (rtI C) x1 x2 _ _ ls hw (lv_sub hl [0, 1, 2] rfl) hf
