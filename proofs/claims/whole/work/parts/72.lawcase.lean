def LwK (p : Program) (l : Launch) (e : Env) (s : State) (m : MethodId) (below : List Frame) (meth : Method) (c : Code) (D : va_G) (q q' : Nat → Nat) (cI cZ : ClassId) (b i pc : Nat) : Prop := ∀ (σ μ : St) (H : Heap) (locs : List Loc) (ls : Array Slot), Rel σ μ → Wd D (A0 s) s (wE q cI cZ σ ++ wM q' cI cZ μ) H locs → lv_has ls 4 [(0, .ref b), (1, .ref (q 0)), (2, .ref (q' 0)), (3, .int (zI (i : Int)))] → W p l e room_1 s m #[Value.ref b] below meth c H locs 600000 7302250 (lw_Z below #[Value.ref b] s) (F0 m pc ls [])
set_option maxHeartbeats 4000000 in
set_option maxRecDepth 100000 in
theorem lc_feed {p : Program} {l : Launch} {e : Env} {s : State} {m : MethodId} {below : List Frame} {meth : Method} {c : Code} {D : va_G} {q q' : Nat → Nat} {cI cZ : ClassId} {b L i : Nat} {xs : Nat → Int32} (C : Cx p s m #[Value.ref b] meth c D (TY cI cZ) cL_law ret 4 wsL_law RL) (hX : va_X b L xs s s.heap) (hbl : b < s.heap.size) (hL : L ≤ 192) (hi : i + 3 ≤ L) (K : LwK p l e s m below meth c D q q' cI cZ b i 851) : LwK p l e s m below meth c D q q' cI cZ b i 164 := by
  obtain ⟨hx, hb, hr, hml, hown, hts, hlk, hK, hN⟩ := id C
  intro σ μ H locs ls hR hw hl
  obtain ⟨r, τ, ν, f1, f2, hR1⟩ := feed_q hR (rg_of (xs (i + 1)))
  refine lv_aload_n hx hb dL_law_164 rfl (lv_at hl 1 rfl) ?_
  refine argL (k := 1) hx hb hX hbl hL hw.2.2 hl (by omega) (by decide) dL_law_165 dL_law_166 dL_law_167 dL_law_168 dL_law_169 ?_
  refine gJ (As := [.int (zI (xs (i + 1)).toInt)]) (rest := []) C (fun _ h => h) hw nmE nmM ixE0 ixE1 ixE2 ndE ndM dsE (fun A => tX10_feed f1) (cwV 1 hts gL_law_X10_feed rfl rfl rfl (by decide +kernel) ⟨Nat.le_of_ble_eq_true rfl, Nat.le_of_ble_eq_true rfl⟩) 10 0 rfl rfl rfl hl.1 rfl (Nat.le_of_ble_eq_true rfl) dL_law_170 ⟨Nat.le_refl _, Nat.le_refl _⟩ (fun H locs hw => ?_)
  refine lv_aload_n hx hb dL_law_173 rfl (lv_at hl 2 rfl) ?_
  refine argL (k := 1) hx hb hX hbl hL hw.2.2 hl (by omega) (by decide) dL_law_174 dL_law_175 dL_law_176 dL_law_177 dL_law_178 ?_
  refine gJ (As := [.int (zI (xs (i + 1)).toInt)]) (rest := [.int (zI r)]) C (fun _ h => h) hw nmM' nmE' ixM0 ixM1 ixM2 ndM' ndE' dsM (fun A => tX11_feed f2) (cwV 1 hts gL_law_X11_feed rfl rfl rfl (by decide +kernel) ⟨Nat.le_of_ble_eq_true rfl, Nat.le_of_ble_eq_true rfl⟩) 11 0 rfl rfl rfl hl.1 rfl (Nat.le_of_ble_eq_true rfl) dL_law_179 ⟨Nat.le_refl _, Nat.le_refl _⟩ (fun H locs hw => ?_)
  exact lv_icmp_eq (tgt := 851) hx hb dL_law_182 (by decide) (fun _ => K τ ν H locs ls hR1 hw hl) (fun hne => absurd rfl hne)
set_option maxHeartbeats 4000000 in
set_option maxRecDepth 100000 in
theorem lc_table {p : Program} {l : Launch} {e : Env} {s : State} {m : MethodId} {below : List Frame} {meth : Method} {c : Code} {D : va_G} {q q' : Nat → Nat} {cI cZ : ClassId} {b L i : Nat} {xs : Nat → Int32} (C : Cx p s m #[Value.ref b] meth c D (TY cI cZ) cL_law ret 4 wsL_law RL) (hX : va_X b L xs s s.heap) (hbl : b < s.heap.size) (hL : L ≤ 192) (hi : i + 3 ≤ L) (K : LwK p l e s m below meth c D q q' cI cZ b i 851) : LwK p l e s m below meth c D q q' cI cZ b i 187 := by
  obtain ⟨hx, hb, hr, hml, hown, hts, hlk, hK, hN⟩ := id C
  intro σ μ H locs ls hR hw hl
  obtain ⟨r, τ, ν, f1, f2, hR1⟩ := table_q hR 
  refine lv_aload_n hx hb dL_law_187 rfl (lv_at hl 1 rfl) ?_
  refine gJ (As := []) (rest := []) C (fun _ h => h) hw nmE nmM ixE0 ixE1 ixE2 ndE ndM dsE (fun A => tX10_table f1) (cwV 0 hts gL_law_X10_table rfl rfl rfl (by decide +kernel) ⟨Nat.le_of_ble_eq_true rfl, Nat.le_of_ble_eq_true rfl⟩) 10 0 rfl rfl rfl hl.1 rfl (Nat.le_of_ble_eq_true rfl) dL_law_188 ⟨Nat.le_refl _, Nat.le_refl _⟩ (fun H locs hw => ?_)
  refine lv_aload_n hx hb dL_law_191 rfl (lv_at hl 2 rfl) ?_
  refine gJ (As := []) (rest := [.int (zI r)]) C (fun _ h => h) hw nmM' nmE' ixM0 ixM1 ixM2 ndM' ndE' dsM (fun A => tX11_table f2) (cwV 0 hts gL_law_X11_table rfl rfl rfl (by decide +kernel) ⟨Nat.le_of_ble_eq_true rfl, Nat.le_of_ble_eq_true rfl⟩) 11 0 rfl rfl rfl hl.1 rfl (Nat.le_of_ble_eq_true rfl) dL_law_192 ⟨Nat.le_refl _, Nat.le_refl _⟩ (fun H locs hw => ?_)
  exact lv_icmp_eq (tgt := 851) hx hb dL_law_195 (by decide) (fun _ => K τ ν H locs ls hR1 hw hl) (fun hne => absurd rfl hne)
set_option maxHeartbeats 4000000 in
set_option maxRecDepth 100000 in
theorem lc_fault {p : Program} {l : Launch} {e : Env} {s : State} {m : MethodId} {below : List Frame} {meth : Method} {c : Code} {D : va_G} {q q' : Nat → Nat} {cI cZ : ClassId} {b L i : Nat} {xs : Nat → Int32} (C : Cx p s m #[Value.ref b] meth c D (TY cI cZ) cL_law ret 4 wsL_law RL) (hX : va_X b L xs s s.heap) (hbl : b < s.heap.size) (hL : L ≤ 192) (hi : i + 3 ≤ L) (K : LwK p l e s m below meth c D q q' cI cZ b i 851) : LwK p l e s m below meth c D q q' cI cZ b i 200 := by
  obtain ⟨hx, hb, hr, hml, hown, hts, hlk, hK, hN⟩ := id C
  intro σ μ H locs ls hR hw hl
  obtain ⟨r, f1, f2⟩ := fault_q hR 
  refine lv_aload_n hx hb dL_law_200 rfl (lv_at hl 1 rfl) ?_
  refine gJ (As := []) (rest := []) C (fun _ h => h) hw nmE nmM ixE0 ixE1 ixE2 ndE ndM dsE (fun A => tX10_fault f1) (cwV 0 hts gL_law_X10_fault rfl rfl rfl (by decide +kernel) ⟨Nat.le_of_ble_eq_true rfl, Nat.le_of_ble_eq_true rfl⟩) 10 0 rfl rfl rfl hl.1 rfl (Nat.le_of_ble_eq_true rfl) dL_law_201 ⟨Nat.le_refl _, Nat.le_refl _⟩ (fun H locs hw => ?_)
  refine lv_aload_n hx hb dL_law_204 rfl (lv_at hl 2 rfl) ?_
  refine gJ (As := []) (rest := [.int (zI r)]) C (fun _ h => h) hw nmM' nmE' ixM0 ixM1 ixM2 ndM' ndE' dsM (fun A => tX11_fault f2) (cwV 0 hts gL_law_X11_fault rfl rfl rfl (by decide +kernel) ⟨Nat.le_of_ble_eq_true rfl, Nat.le_of_ble_eq_true rfl⟩) 11 0 rfl rfl rfl hl.1 rfl (Nat.le_of_ble_eq_true rfl) dL_law_205 ⟨Nat.le_refl _, Nat.le_refl _⟩ (fun H locs hw => ?_)
  exact lv_icmp_eq (tgt := 851) hx hb dL_law_208 (by decide) (fun _ => K σ μ H locs ls hR hw hl) (fun hne => absurd rfl hne)
set_option maxHeartbeats 4000000 in
set_option maxRecDepth 100000 in
theorem lc_told {p : Program} {l : Launch} {e : Env} {s : State} {m : MethodId} {below : List Frame} {meth : Method} {c : Code} {D : va_G} {q q' : Nat → Nat} {cI cZ : ClassId} {b L i : Nat} {xs : Nat → Int32} (C : Cx p s m #[Value.ref b] meth c D (TY cI cZ) cL_law ret 4 wsL_law RL) (hX : va_X b L xs s s.heap) (hbl : b < s.heap.size) (hL : L ≤ 192) (hi : i + 3 ≤ L) (K : LwK p l e s m below meth c D q q' cI cZ b i 851) : LwK p l e s m below meth c D q q' cI cZ b i 213 := by
  obtain ⟨hx, hb, hr, hml, hown, hts, hlk, hK, hN⟩ := id C
  intro σ μ H locs ls hR hw hl
  obtain ⟨r, f1, f2⟩ := told_q hR (rg_of (xs (i + 1)))
  refine lv_aload_n hx hb dL_law_213 rfl (lv_at hl 1 rfl) ?_
  refine argL (k := 1) hx hb hX hbl hL hw.2.2 hl (by omega) (by decide) dL_law_214 dL_law_215 dL_law_216 dL_law_217 dL_law_218 ?_
  refine gJ (As := [.int (zI (xs (i + 1)).toInt)]) (rest := []) C (fun _ h => h) hw nmE nmM ixE0 ixE1 ixE2 ndE ndM dsE (fun A => tX10_told f1) (cwV 1 hts gL_law_X10_told rfl rfl rfl (by decide +kernel) ⟨Nat.le_of_ble_eq_true rfl, Nat.le_of_ble_eq_true rfl⟩) 10 0 rfl rfl rfl hl.1 rfl (Nat.le_of_ble_eq_true rfl) dL_law_219 ⟨Nat.le_refl _, Nat.le_refl _⟩ (fun H locs hw => ?_)
  refine lv_aload_n hx hb dL_law_222 rfl (lv_at hl 2 rfl) ?_
  refine argL (k := 1) hx hb hX hbl hL hw.2.2 hl (by omega) (by decide) dL_law_223 dL_law_224 dL_law_225 dL_law_226 dL_law_227 ?_
  refine gJ (As := [.int (zI (xs (i + 1)).toInt)]) (rest := [.int (zI r)]) C (fun _ h => h) hw nmM' nmE' ixM0 ixM1 ixM2 ndM' ndE' dsM (fun A => tX11_told f2) (cwV 1 hts gL_law_X11_told rfl rfl rfl (by decide +kernel) ⟨Nat.le_of_ble_eq_true rfl, Nat.le_of_ble_eq_true rfl⟩) 11 0 rfl rfl rfl hl.1 rfl (Nat.le_of_ble_eq_true rfl) dL_law_228 ⟨Nat.le_refl _, Nat.le_refl _⟩ (fun H locs hw => ?_)
  exact lv_icmp_eq (tgt := 851) hx hb dL_law_231 (by decide) (fun _ => K σ μ H locs ls hR hw hl) (fun hne => absurd rfl hne)
set_option maxHeartbeats 4000000 in
set_option maxRecDepth 100000 in
theorem lc_egg {p : Program} {l : Launch} {e : Env} {s : State} {m : MethodId} {below : List Frame} {meth : Method} {c : Code} {D : va_G} {q q' : Nat → Nat} {cI cZ : ClassId} {b L i : Nat} {xs : Nat → Int32} (C : Cx p s m #[Value.ref b] meth c D (TY cI cZ) cL_law ret 4 wsL_law RL) (hX : va_X b L xs s s.heap) (hbl : b < s.heap.size) (hL : L ≤ 192) (hi : i + 3 ≤ L) (K : LwK p l e s m below meth c D q q' cI cZ b i 851) : LwK p l e s m below meth c D q q' cI cZ b i 236 := by
  obtain ⟨hx, hb, hr, hml, hown, hts, hlk, hK, hN⟩ := id C
  intro σ μ H locs ls hR hw hl
  obtain ⟨r, f1, f2⟩ := egg_q hR (rg_of (xs (i + 1))) (rg_of (xs (i + 2)))
  refine lv_aload_n hx hb dL_law_236 rfl (lv_at hl 1 rfl) ?_
  refine argL (k := 1) hx hb hX hbl hL hw.2.2 hl (by omega) (by decide) dL_law_237 dL_law_238 dL_law_239 dL_law_240 dL_law_241 ?_
  refine argL (k := 2) hx hb hX hbl hL hw.2.2 hl (by omega) (by decide) dL_law_242 dL_law_243 dL_law_244 dL_law_245 dL_law_246 ?_
  refine gJ (As := [.int (zI (xs (i + 1)).toInt), .int (zI (xs (i + 2)).toInt)]) (rest := []) C (fun _ h => h) hw nmE nmM ixE0 ixE1 ixE2 ndE ndM dsE (fun A => tX10_egg f1) (cwV 2 hts gL_law_X10_egg rfl rfl rfl (by decide +kernel) ⟨Nat.le_of_ble_eq_true rfl, Nat.le_of_ble_eq_true rfl⟩) 10 0 rfl rfl rfl hl.1 rfl (Nat.le_of_ble_eq_true rfl) dL_law_247 ⟨Nat.le_refl _, Nat.le_refl _⟩ (fun H locs hw => ?_)
  refine lv_aload_n hx hb dL_law_250 rfl (lv_at hl 2 rfl) ?_
  refine argL (k := 1) hx hb hX hbl hL hw.2.2 hl (by omega) (by decide) dL_law_251 dL_law_252 dL_law_253 dL_law_254 dL_law_255 ?_
  refine argL (k := 2) hx hb hX hbl hL hw.2.2 hl (by omega) (by decide) dL_law_256 dL_law_257 dL_law_258 dL_law_259 dL_law_260 ?_
  refine gJ (As := [.int (zI (xs (i + 1)).toInt), .int (zI (xs (i + 2)).toInt)]) (rest := [.int (zI r)]) C (fun _ h => h) hw nmM' nmE' ixM0 ixM1 ixM2 ndM' ndE' dsM (fun A => tX11_egg f2) (cwV 2 hts gL_law_X11_egg rfl rfl rfl (by decide +kernel) ⟨Nat.le_of_ble_eq_true rfl, Nat.le_of_ble_eq_true rfl⟩) 11 0 rfl rfl rfl hl.1 rfl (Nat.le_of_ble_eq_true rfl) dL_law_261 ⟨Nat.le_refl _, Nat.le_refl _⟩ (fun H locs hw => ?_)
  exact lv_icmp_eq (tgt := 851) hx hb dL_law_264 (by decide) (fun _ => K σ μ H locs ls hR hw hl) (fun hne => absurd rfl hne)
set_option maxHeartbeats 4000000 in
set_option maxRecDepth 100000 in
theorem lc_eater {p : Program} {l : Launch} {e : Env} {s : State} {m : MethodId} {below : List Frame} {meth : Method} {c : Code} {D : va_G} {q q' : Nat → Nat} {cI cZ : ClassId} {b L i : Nat} {xs : Nat → Int32} (C : Cx p s m #[Value.ref b] meth c D (TY cI cZ) cL_law ret 4 wsL_law RL) (hX : va_X b L xs s s.heap) (hbl : b < s.heap.size) (hL : L ≤ 192) (hi : i + 3 ≤ L) (K : LwK p l e s m below meth c D q q' cI cZ b i 851) : LwK p l e s m below meth c D q q' cI cZ b i 269 := by
  obtain ⟨hx, hb, hr, hml, hown, hts, hlk, hK, hN⟩ := id C
  intro σ μ H locs ls hR hw hl
  obtain ⟨r, f1, f2⟩ := eater_q hR (rg_of (xs (i + 1))) (rg_of (xs (i + 2)))
  refine lv_aload_n hx hb dL_law_269 rfl (lv_at hl 1 rfl) ?_
  refine argL (k := 1) hx hb hX hbl hL hw.2.2 hl (by omega) (by decide) dL_law_270 dL_law_271 dL_law_272 dL_law_273 dL_law_274 ?_
  refine argL (k := 2) hx hb hX hbl hL hw.2.2 hl (by omega) (by decide) dL_law_275 dL_law_276 dL_law_277 dL_law_278 dL_law_279 ?_
  refine gJ (As := [.int (zI (xs (i + 1)).toInt), .int (zI (xs (i + 2)).toInt)]) (rest := []) C (fun _ h => h) hw nmE nmM ixE0 ixE1 ixE2 ndE ndM dsE (fun A => tX10_eater f1) (cwV 2 hts gL_law_X10_eater rfl rfl rfl (by decide +kernel) ⟨Nat.le_of_ble_eq_true rfl, Nat.le_of_ble_eq_true rfl⟩) 10 0 rfl rfl rfl hl.1 rfl (Nat.le_of_ble_eq_true rfl) dL_law_280 ⟨Nat.le_refl _, Nat.le_refl _⟩ (fun H locs hw => ?_)
  refine lv_aload_n hx hb dL_law_283 rfl (lv_at hl 2 rfl) ?_
  refine argL (k := 1) hx hb hX hbl hL hw.2.2 hl (by omega) (by decide) dL_law_284 dL_law_285 dL_law_286 dL_law_287 dL_law_288 ?_
  refine argL (k := 2) hx hb hX hbl hL hw.2.2 hl (by omega) (by decide) dL_law_289 dL_law_290 dL_law_291 dL_law_292 dL_law_293 ?_
  refine gJ (As := [.int (zI (xs (i + 1)).toInt), .int (zI (xs (i + 2)).toInt)]) (rest := [.int (zI r)]) C (fun _ h => h) hw nmM' nmE' ixM0 ixM1 ixM2 ndM' ndE' dsM (fun A => tX11_eater f2) (cwV 2 hts gL_law_X11_eater rfl rfl rfl (by decide +kernel) ⟨Nat.le_of_ble_eq_true rfl, Nat.le_of_ble_eq_true rfl⟩) 11 0 rfl rfl rfl hl.1 rfl (Nat.le_of_ble_eq_true rfl) dL_law_294 ⟨Nat.le_refl _, Nat.le_refl _⟩ (fun H locs hw => ?_)
  exact lv_icmp_eq (tgt := 851) hx hb dL_law_297 (by decide) (fun _ => K σ μ H locs ls hR hw hl) (fun hne => absurd rfl hne)
set_option maxHeartbeats 4000000 in
set_option maxRecDepth 100000 in
theorem lc_minute {p : Program} {l : Launch} {e : Env} {s : State} {m : MethodId} {below : List Frame} {meth : Method} {c : Code} {D : va_G} {q q' : Nat → Nat} {cI cZ : ClassId} {b L i : Nat} {xs : Nat → Int32} (C : Cx p s m #[Value.ref b] meth c D (TY cI cZ) cL_law ret 4 wsL_law RL) (hX : va_X b L xs s s.heap) (hbl : b < s.heap.size) (hL : L ≤ 192) (hi : i + 3 ≤ L) (K : LwK p l e s m below meth c D q q' cI cZ b i 851) : LwK p l e s m below meth c D q q' cI cZ b i 302 := by
  obtain ⟨hx, hb, hr, hml, hown, hts, hlk, hK, hN⟩ := id C
  intro σ μ H locs ls hR hw hl
  obtain ⟨r, τ, ν, f1, f2, hR1⟩ := minute_q hR (rg_of (xs (i + 1)))
  refine lv_aload_n hx hb dL_law_302 rfl (lv_at hl 1 rfl) ?_
  refine argL (k := 1) hx hb hX hbl hL hw.2.2 hl (by omega) (by decide) dL_law_303 dL_law_304 dL_law_305 dL_law_306 dL_law_307 ?_
  refine gJ (As := [.int (zI (xs (i + 1)).toInt)]) (rest := []) C (fun _ h => h) hw nmE nmM ixE0 ixE1 ixE2 ndE ndM dsE (fun A => tX10_minute f1) (cwV 1 hts gL_law_X10_minute rfl rfl rfl (by decide +kernel) ⟨Nat.le_of_ble_eq_true rfl, Nat.le_of_ble_eq_true rfl⟩) 10 0 rfl rfl rfl hl.1 rfl (Nat.le_of_ble_eq_true rfl) dL_law_308 ⟨Nat.le_refl _, Nat.le_refl _⟩ (fun H locs hw => ?_)
  refine lv_aload_n hx hb dL_law_311 rfl (lv_at hl 2 rfl) ?_
  refine argL (k := 1) hx hb hX hbl hL hw.2.2 hl (by omega) (by decide) dL_law_312 dL_law_313 dL_law_314 dL_law_315 dL_law_316 ?_
  refine gJ (As := [.int (zI (xs (i + 1)).toInt)]) (rest := [.int (zI r)]) C (fun _ h => h) hw nmM' nmE' ixM0 ixM1 ixM2 ndM' ndE' dsM (fun A => tX11_minute f2) (cwV 1 hts gL_law_X11_minute rfl rfl rfl (by decide +kernel) ⟨Nat.le_of_ble_eq_true rfl, Nat.le_of_ble_eq_true rfl⟩) 11 0 rfl rfl rfl hl.1 rfl (Nat.le_of_ble_eq_true rfl) dL_law_317 ⟨Nat.le_refl _, Nat.le_refl _⟩ (fun H locs hw => ?_)
  exact lv_icmp_eq (tgt := 851) hx hb dL_law_320 (by decide) (fun _ => K τ ν H locs ls hR1 hw hl) (fun hne => absurd rfl hne)
set_option maxHeartbeats 4000000 in
set_option maxRecDepth 100000 in
theorem lc_put {p : Program} {l : Launch} {e : Env} {s : State} {m : MethodId} {below : List Frame} {meth : Method} {c : Code} {D : va_G} {q q' : Nat → Nat} {cI cZ : ClassId} {b L i : Nat} {xs : Nat → Int32} (C : Cx p s m #[Value.ref b] meth c D (TY cI cZ) cL_law ret 4 wsL_law RL) (hX : va_X b L xs s s.heap) (hbl : b < s.heap.size) (hL : L ≤ 192) (hi : i + 3 ≤ L) (K : LwK p l e s m below meth c D q q' cI cZ b i 851) : LwK p l e s m below meth c D q q' cI cZ b i 325 := by
  obtain ⟨hx, hb, hr, hml, hown, hts, hlk, hK, hN⟩ := id C
  intro σ μ H locs ls hR hw hl
  obtain ⟨r, τ, ν, f1, f2, hR1⟩ := put_q hR (rg_of (xs (i + 1)))
  refine lv_aload_n hx hb dL_law_325 rfl (lv_at hl 1 rfl) ?_
  refine argL (k := 1) hx hb hX hbl hL hw.2.2 hl (by omega) (by decide) dL_law_326 dL_law_327 dL_law_328 dL_law_329 dL_law_330 ?_
  refine gJ (As := [.int (zI (xs (i + 1)).toInt)]) (rest := []) C (fun _ h => h) hw nmE nmM ixE0 ixE1 ixE2 ndE ndM dsE (fun A => tX10_put f1) (cwV 1 hts gL_law_X10_put rfl rfl rfl (by decide +kernel) ⟨Nat.le_of_ble_eq_true rfl, Nat.le_of_ble_eq_true rfl⟩) 10 0 rfl rfl rfl hl.1 rfl (Nat.le_of_ble_eq_true rfl) dL_law_331 ⟨Nat.le_refl _, Nat.le_refl _⟩ (fun H locs hw => ?_)
  refine lv_aload_n hx hb dL_law_334 rfl (lv_at hl 2 rfl) ?_
  refine argL (k := 1) hx hb hX hbl hL hw.2.2 hl (by omega) (by decide) dL_law_335 dL_law_336 dL_law_337 dL_law_338 dL_law_339 ?_
  refine gJ (As := [.int (zI (xs (i + 1)).toInt)]) (rest := [.int (zI r)]) C (fun _ h => h) hw nmM' nmE' ixM0 ixM1 ixM2 ndM' ndE' dsM (fun A => tX11_put f2) (cwV 1 hts gL_law_X11_put rfl rfl rfl (by decide +kernel) ⟨Nat.le_of_ble_eq_true rfl, Nat.le_of_ble_eq_true rfl⟩) 11 0 rfl rfl rfl hl.1 rfl (Nat.le_of_ble_eq_true rfl) dL_law_340 ⟨Nat.le_refl _, Nat.le_refl _⟩ (fun H locs hw => ?_)
  exact lv_icmp_eq (tgt := 851) hx hb dL_law_343 (by decide) (fun _ => K τ ν H locs ls hR1 hw hl) (fun hne => absurd rfl hne)
set_option maxHeartbeats 4000000 in
set_option maxRecDepth 100000 in
theorem lc_takeOut {p : Program} {l : Launch} {e : Env} {s : State} {m : MethodId} {below : List Frame} {meth : Method} {c : Code} {D : va_G} {q q' : Nat → Nat} {cI cZ : ClassId} {b L i : Nat} {xs : Nat → Int32} (C : Cx p s m #[Value.ref b] meth c D (TY cI cZ) cL_law ret 4 wsL_law RL) (hX : va_X b L xs s s.heap) (hbl : b < s.heap.size) (hL : L ≤ 192) (hi : i + 3 ≤ L) (K : LwK p l e s m below meth c D q q' cI cZ b i 851) : LwK p l e s m below meth c D q q' cI cZ b i 348 := by
  obtain ⟨hx, hb, hr, hml, hown, hts, hlk, hK, hN⟩ := id C
  intro σ μ H locs ls hR hw hl
  obtain ⟨r, τ, ν, f1, f2, hR1⟩ := takeOut_q hR (rg_of (xs (i + 1)))
  refine lv_aload_n hx hb dL_law_348 rfl (lv_at hl 1 rfl) ?_
  refine argL (k := 1) hx hb hX hbl hL hw.2.2 hl (by omega) (by decide) dL_law_349 dL_law_350 dL_law_351 dL_law_352 dL_law_353 ?_
  refine gJ (As := [.int (zI (xs (i + 1)).toInt)]) (rest := []) C (fun _ h => h) hw nmE nmM ixE0 ixE1 ixE2 ndE ndM dsE (fun A => tX10_takeOut f1) (cwV 1 hts gL_law_X10_takeOut rfl rfl rfl (by decide +kernel) ⟨Nat.le_of_ble_eq_true rfl, Nat.le_of_ble_eq_true rfl⟩) 10 0 rfl rfl rfl hl.1 rfl (Nat.le_of_ble_eq_true rfl) dL_law_354 ⟨Nat.le_refl _, Nat.le_refl _⟩ (fun H locs hw => ?_)
  refine lv_aload_n hx hb dL_law_357 rfl (lv_at hl 2 rfl) ?_
  refine argL (k := 1) hx hb hX hbl hL hw.2.2 hl (by omega) (by decide) dL_law_358 dL_law_359 dL_law_360 dL_law_361 dL_law_362 ?_
  refine gJ (As := [.int (zI (xs (i + 1)).toInt)]) (rest := [.int (zI r)]) C (fun _ h => h) hw nmM' nmE' ixM0 ixM1 ixM2 ndM' ndE' dsM (fun A => tX11_takeOut f2) (cwV 1 hts gL_law_X11_takeOut rfl rfl rfl (by decide +kernel) ⟨Nat.le_of_ble_eq_true rfl, Nat.le_of_ble_eq_true rfl⟩) 11 0 rfl rfl rfl hl.1 rfl (Nat.le_of_ble_eq_true rfl) dL_law_363 ⟨Nat.le_refl _, Nat.le_refl _⟩ (fun H locs hw => ?_)
  exact lv_icmp_eq (tgt := 851) hx hb dL_law_366 (by decide) (fun _ => K τ ν H locs ls hR1 hw hl) (fun hne => absurd rfl hne)
set_option maxHeartbeats 4000000 in
set_option maxRecDepth 100000 in
theorem lc_crown {p : Program} {l : Launch} {e : Env} {s : State} {m : MethodId} {below : List Frame} {meth : Method} {c : Code} {D : va_G} {q q' : Nat → Nat} {cI cZ : ClassId} {b L i : Nat} {xs : Nat → Int32} (C : Cx p s m #[Value.ref b] meth c D (TY cI cZ) cL_law ret 4 wsL_law RL) (hX : va_X b L xs s s.heap) (hbl : b < s.heap.size) (hL : L ≤ 192) (hi : i + 3 ≤ L) (K : LwK p l e s m below meth c D q q' cI cZ b i 851) : LwK p l e s m below meth c D q q' cI cZ b i 371 := by
  obtain ⟨hx, hb, hr, hml, hown, hts, hlk, hK, hN⟩ := id C
  intro σ μ H locs ls hR hw hl
  obtain ⟨r, τ, ν, f1, f2, hR1⟩ := crown_q hR (rg_of (xs (i + 1)))
  refine lv_aload_n hx hb dL_law_371 rfl (lv_at hl 1 rfl) ?_
  refine argL (k := 1) hx hb hX hbl hL hw.2.2 hl (by omega) (by decide) dL_law_372 dL_law_373 dL_law_374 dL_law_375 dL_law_376 ?_
  refine gJ (As := [.int (zI (xs (i + 1)).toInt)]) (rest := []) C (fun _ h => h) hw nmE nmM ixE0 ixE1 ixE2 ndE ndM dsE (fun A => tX10_crown f1) (cwV 1 hts gL_law_X10_crown rfl rfl rfl (by decide +kernel) ⟨Nat.le_of_ble_eq_true rfl, Nat.le_of_ble_eq_true rfl⟩) 10 0 rfl rfl rfl hl.1 rfl (Nat.le_of_ble_eq_true rfl) dL_law_377 ⟨Nat.le_refl _, Nat.le_refl _⟩ (fun H locs hw => ?_)
  refine lv_aload_n hx hb dL_law_380 rfl (lv_at hl 2 rfl) ?_
  refine argL (k := 1) hx hb hX hbl hL hw.2.2 hl (by omega) (by decide) dL_law_381 dL_law_382 dL_law_383 dL_law_384 dL_law_385 ?_
  refine gJ (As := [.int (zI (xs (i + 1)).toInt)]) (rest := [.int (zI r)]) C (fun _ h => h) hw nmM' nmE' ixM0 ixM1 ixM2 ndM' ndE' dsM (fun A => tX11_crown f2) (cwV 1 hts gL_law_X11_crown rfl rfl rfl (by decide +kernel) ⟨Nat.le_of_ble_eq_true rfl, Nat.le_of_ble_eq_true rfl⟩) 11 0 rfl rfl rfl hl.1 rfl (Nat.le_of_ble_eq_true rfl) dL_law_386 ⟨Nat.le_refl _, Nat.le_refl _⟩ (fun H locs hw => ?_)
  exact lv_icmp_eq (tgt := 851) hx hb dL_law_389 (by decide) (fun _ => K τ ν H locs ls hR1 hw hl) (fun hne => absurd rfl hne)
set_option maxHeartbeats 4000000 in
set_option maxRecDepth 100000 in
theorem lc_cutToast {p : Program} {l : Launch} {e : Env} {s : State} {m : MethodId} {below : List Frame} {meth : Method} {c : Code} {D : va_G} {q q' : Nat → Nat} {cI cZ : ClassId} {b L i : Nat} {xs : Nat → Int32} (C : Cx p s m #[Value.ref b] meth c D (TY cI cZ) cL_law ret 4 wsL_law RL) (hX : va_X b L xs s s.heap) (hbl : b < s.heap.size) (hL : L ≤ 192) (hi : i + 3 ≤ L) (K : LwK p l e s m below meth c D q q' cI cZ b i 851) : LwK p l e s m below meth c D q q' cI cZ b i 394 := by
  obtain ⟨hx, hb, hr, hml, hown, hts, hlk, hK, hN⟩ := id C
  intro σ μ H locs ls hR hw hl
  obtain ⟨r, τ, ν, f1, f2, hR1⟩ := cutToast_q hR (rg_of (xs (i + 1)))
  refine lv_aload_n hx hb dL_law_394 rfl (lv_at hl 1 rfl) ?_
  refine argL (k := 1) hx hb hX hbl hL hw.2.2 hl (by omega) (by decide) dL_law_395 dL_law_396 dL_law_397 dL_law_398 dL_law_399 ?_
  refine gJ (As := [.int (zI (xs (i + 1)).toInt)]) (rest := []) C (fun _ h => h) hw nmE nmM ixE0 ixE1 ixE2 ndE ndM dsE (fun A => tX10_cutToast f1) (cwV 1 hts gL_law_X10_cutToast rfl rfl rfl (by decide +kernel) ⟨Nat.le_of_ble_eq_true rfl, Nat.le_of_ble_eq_true rfl⟩) 10 0 rfl rfl rfl hl.1 rfl (Nat.le_of_ble_eq_true rfl) dL_law_400 ⟨Nat.le_refl _, Nat.le_refl _⟩ (fun H locs hw => ?_)
  refine lv_aload_n hx hb dL_law_403 rfl (lv_at hl 2 rfl) ?_
  refine argL (k := 1) hx hb hX hbl hL hw.2.2 hl (by omega) (by decide) dL_law_404 dL_law_405 dL_law_406 dL_law_407 dL_law_408 ?_
  refine gJ (As := [.int (zI (xs (i + 1)).toInt)]) (rest := [.int (zI r)]) C (fun _ h => h) hw nmM' nmE' ixM0 ixM1 ixM2 ndM' ndE' dsM (fun A => tX11_cutToast f2) (cwV 1 hts gL_law_X11_cutToast rfl rfl rfl (by decide +kernel) ⟨Nat.le_of_ble_eq_true rfl, Nat.le_of_ble_eq_true rfl⟩) 11 0 rfl rfl rfl hl.1 rfl (Nat.le_of_ble_eq_true rfl) dL_law_409 ⟨Nat.le_refl _, Nat.le_refl _⟩ (fun H locs hw => ?_)
  exact lv_icmp_eq (tgt := 851) hx hb dL_law_412 (by decide) (fun _ => K τ ν H locs ls hR1 hw hl) (fun hne => absurd rfl hne)
set_option maxHeartbeats 4000000 in
set_option maxRecDepth 100000 in
theorem lc_drift {p : Program} {l : Launch} {e : Env} {s : State} {m : MethodId} {below : List Frame} {meth : Method} {c : Code} {D : va_G} {q q' : Nat → Nat} {cI cZ : ClassId} {b L i : Nat} {xs : Nat → Int32} (C : Cx p s m #[Value.ref b] meth c D (TY cI cZ) cL_law ret 4 wsL_law RL) (hX : va_X b L xs s s.heap) (hbl : b < s.heap.size) (hL : L ≤ 192) (hi : i + 3 ≤ L) (K : LwK p l e s m below meth c D q q' cI cZ b i 851) : LwK p l e s m below meth c D q q' cI cZ b i 417 := by
  obtain ⟨hx, hb, hr, hml, hown, hts, hlk, hK, hN⟩ := id C
  intro σ μ H locs ls hR hw hl
  obtain ⟨r, τ, ν, f1, f2, hR1⟩ := drift_q hR (rg_of (xs (i + 1)))
  refine lv_aload_n hx hb dL_law_417 rfl (lv_at hl 1 rfl) ?_
  refine argL (k := 1) hx hb hX hbl hL hw.2.2 hl (by omega) (by decide) dL_law_418 dL_law_419 dL_law_420 dL_law_421 dL_law_422 ?_
  refine gJ (As := [.int (zI (xs (i + 1)).toInt)]) (rest := []) C (fun _ h => h) hw nmE nmM ixE0 ixE1 ixE2 ndE ndM dsE (fun A => tX10_drift f1) (cwV 1 hts gL_law_X10_drift rfl rfl rfl (by decide +kernel) ⟨Nat.le_of_ble_eq_true rfl, Nat.le_of_ble_eq_true rfl⟩) 10 0 rfl rfl rfl hl.1 rfl (Nat.le_of_ble_eq_true rfl) dL_law_423 ⟨Nat.le_refl _, Nat.le_refl _⟩ (fun H locs hw => ?_)
  refine lv_aload_n hx hb dL_law_426 rfl (lv_at hl 2 rfl) ?_
  refine argL (k := 1) hx hb hX hbl hL hw.2.2 hl (by omega) (by decide) dL_law_427 dL_law_428 dL_law_429 dL_law_430 dL_law_431 ?_
  refine gJ (As := [.int (zI (xs (i + 1)).toInt)]) (rest := [.int (zI r)]) C (fun _ h => h) hw nmM' nmE' ixM0 ixM1 ixM2 ndM' ndE' dsM (fun A => tX11_drift f2) (cwV 1 hts gL_law_X11_drift rfl rfl rfl (by decide +kernel) ⟨Nat.le_of_ble_eq_true rfl, Nat.le_of_ble_eq_true rfl⟩) 11 0 rfl rfl rfl hl.1 rfl (Nat.le_of_ble_eq_true rfl) dL_law_432 ⟨Nat.le_refl _, Nat.le_refl _⟩ (fun H locs hw => ?_)
  exact lv_icmp_eq (tgt := 851) hx hb dL_law_435 (by decide) (fun _ => K τ ν H locs ls hR1 hw hl) (fun hne => absurd rfl hne)
set_option maxHeartbeats 4000000 in
set_option maxRecDepth 100000 in
theorem lc_undo {p : Program} {l : Launch} {e : Env} {s : State} {m : MethodId} {below : List Frame} {meth : Method} {c : Code} {D : va_G} {q q' : Nat → Nat} {cI cZ : ClassId} {b L i : Nat} {xs : Nat → Int32} (C : Cx p s m #[Value.ref b] meth c D (TY cI cZ) cL_law ret 4 wsL_law RL) (hX : va_X b L xs s s.heap) (hbl : b < s.heap.size) (hL : L ≤ 192) (hi : i + 3 ≤ L) (K : LwK p l e s m below meth c D q q' cI cZ b i 851) : LwK p l e s m below meth c D q q' cI cZ b i 440 := by
  obtain ⟨hx, hb, hr, hml, hown, hts, hlk, hK, hN⟩ := id C
  intro σ μ H locs ls hR hw hl
  obtain ⟨r, τ, ν, f1, f2, hR1⟩ := undo_q hR 
  refine lv_aload_n hx hb dL_law_440 rfl (lv_at hl 1 rfl) ?_
  refine gJ (As := []) (rest := []) C (fun _ h => h) hw nmE nmM ixE0 ixE1 ixE2 ndE ndM dsE (fun A => tX10_undo f1) (cwV 0 hts gL_law_X10_undo rfl rfl rfl (by decide +kernel) ⟨Nat.le_of_ble_eq_true rfl, Nat.le_of_ble_eq_true rfl⟩) 10 0 rfl rfl rfl hl.1 rfl (Nat.le_of_ble_eq_true rfl) dL_law_441 ⟨Nat.le_refl _, Nat.le_refl _⟩ (fun H locs hw => ?_)
  refine lv_aload_n hx hb dL_law_444 rfl (lv_at hl 2 rfl) ?_
  refine gJ (As := []) (rest := [.int (zI r)]) C (fun _ h => h) hw nmM' nmE' ixM0 ixM1 ixM2 ndM' ndE' dsM (fun A => tX11_undo f2) (cwV 0 hts gL_law_X11_undo rfl rfl rfl (by decide +kernel) ⟨Nat.le_of_ble_eq_true rfl, Nat.le_of_ble_eq_true rfl⟩) 11 0 rfl rfl rfl hl.1 rfl (Nat.le_of_ble_eq_true rfl) dL_law_445 ⟨Nat.le_refl _, Nat.le_refl _⟩ (fun H locs hw => ?_)
  exact lv_icmp_eq (tgt := 851) hx hb dL_law_448 (by decide) (fun _ => K τ ν H locs ls hR1 hw hl) (fun hne => absurd rfl hne)
set_option maxHeartbeats 4000000 in
set_option maxRecDepth 100000 in
theorem lc_wish {p : Program} {l : Launch} {e : Env} {s : State} {m : MethodId} {below : List Frame} {meth : Method} {c : Code} {D : va_G} {q q' : Nat → Nat} {cI cZ : ClassId} {b L i : Nat} {xs : Nat → Int32} (C : Cx p s m #[Value.ref b] meth c D (TY cI cZ) cL_law ret 4 wsL_law RL) (hX : va_X b L xs s s.heap) (hbl : b < s.heap.size) (hL : L ≤ 192) (hi : i + 3 ≤ L) (K : LwK p l e s m below meth c D q q' cI cZ b i 851) : LwK p l e s m below meth c D q q' cI cZ b i 453 := by
  obtain ⟨hx, hb, hr, hml, hown, hts, hlk, hK, hN⟩ := id C
  intro σ μ H locs ls hR hw hl
  obtain ⟨r, τ, ν, f1, f2, hR1⟩ := wish_q hR (rg_of (xs (i + 1))) (rg_of (xs (i + 2)))
  refine lv_aload_n hx hb dL_law_453 rfl (lv_at hl 1 rfl) ?_
  refine argL (k := 1) hx hb hX hbl hL hw.2.2 hl (by omega) (by decide) dL_law_454 dL_law_455 dL_law_456 dL_law_457 dL_law_458 ?_
  refine argL (k := 2) hx hb hX hbl hL hw.2.2 hl (by omega) (by decide) dL_law_459 dL_law_460 dL_law_461 dL_law_462 dL_law_463 ?_
  refine gJ (As := [.int (zI (xs (i + 1)).toInt), .int (zI (xs (i + 2)).toInt)]) (rest := []) C (fun _ h => h) hw nmE nmM ixE0 ixE1 ixE2 ndE ndM dsE (fun A => tX10_wish f1) (cwV 2 hts gL_law_X10_wish rfl rfl rfl (by decide +kernel) ⟨Nat.le_of_ble_eq_true rfl, Nat.le_of_ble_eq_true rfl⟩) 10 0 rfl rfl rfl hl.1 rfl (Nat.le_of_ble_eq_true rfl) dL_law_464 ⟨Nat.le_refl _, Nat.le_refl _⟩ (fun H locs hw => ?_)
  refine lv_aload_n hx hb dL_law_467 rfl (lv_at hl 2 rfl) ?_
  refine argL (k := 1) hx hb hX hbl hL hw.2.2 hl (by omega) (by decide) dL_law_468 dL_law_469 dL_law_470 dL_law_471 dL_law_472 ?_
  refine argL (k := 2) hx hb hX hbl hL hw.2.2 hl (by omega) (by decide) dL_law_473 dL_law_474 dL_law_475 dL_law_476 dL_law_477 ?_
  refine gJ (As := [.int (zI (xs (i + 1)).toInt), .int (zI (xs (i + 2)).toInt)]) (rest := [.int (zI r)]) C (fun _ h => h) hw nmM' nmE' ixM0 ixM1 ixM2 ndM' ndE' dsM (fun A => tX11_wish f2) (cwV 2 hts gL_law_X11_wish rfl rfl rfl (by decide +kernel) ⟨Nat.le_of_ble_eq_true rfl, Nat.le_of_ble_eq_true rfl⟩) 11 0 rfl rfl rfl hl.1 rfl (Nat.le_of_ble_eq_true rfl) dL_law_478 ⟨Nat.le_refl _, Nat.le_refl _⟩ (fun H locs hw => ?_)
  exact lv_icmp_eq (tgt := 851) hx hb dL_law_481 (by decide) (fun _ => K τ ν H locs ls hR1 hw hl) (fun hne => absurd rfl hne)
set_option maxHeartbeats 4000000 in
set_option maxRecDepth 100000 in
theorem lc_needs {p : Program} {l : Launch} {e : Env} {s : State} {m : MethodId} {below : List Frame} {meth : Method} {c : Code} {D : va_G} {q q' : Nat → Nat} {cI cZ : ClassId} {b L i : Nat} {xs : Nat → Int32} (C : Cx p s m #[Value.ref b] meth c D (TY cI cZ) cL_law ret 4 wsL_law RL) (hX : va_X b L xs s s.heap) (hbl : b < s.heap.size) (hL : L ≤ 192) (hi : i + 3 ≤ L) (K : LwK p l e s m below meth c D q q' cI cZ b i 851) : LwK p l e s m below meth c D q q' cI cZ b i 486 := by
  obtain ⟨hx, hb, hr, hml, hown, hts, hlk, hK, hN⟩ := id C
  intro σ μ H locs ls hR hw hl
  obtain ⟨r, f1, f2⟩ := needs_q hR (rg_of (xs (i + 1))) (rg_of (xs (i + 2)))
  refine lv_aload_n hx hb dL_law_486 rfl (lv_at hl 1 rfl) ?_
  refine argL (k := 1) hx hb hX hbl hL hw.2.2 hl (by omega) (by decide) dL_law_487 dL_law_488 dL_law_489 dL_law_490 dL_law_491 ?_
  refine argL (k := 2) hx hb hX hbl hL hw.2.2 hl (by omega) (by decide) dL_law_492 dL_law_493 dL_law_494 dL_law_495 dL_law_496 ?_
  refine gJ (As := [.int (zI (xs (i + 1)).toInt), .int (zI (xs (i + 2)).toInt)]) (rest := []) C (fun _ h => h) hw nmE nmM ixE0 ixE1 ixE2 ndE ndM dsE (fun A => tX10_needs f1) (cwV 2 hts gL_law_X10_needs rfl rfl rfl (by decide +kernel) ⟨Nat.le_of_ble_eq_true rfl, Nat.le_of_ble_eq_true rfl⟩) 10 0 rfl rfl rfl hl.1 rfl (Nat.le_of_ble_eq_true rfl) dL_law_497 ⟨Nat.le_refl _, Nat.le_refl _⟩ (fun H locs hw => ?_)
  refine lv_aload_n hx hb dL_law_500 rfl (lv_at hl 2 rfl) ?_
  refine argL (k := 1) hx hb hX hbl hL hw.2.2 hl (by omega) (by decide) dL_law_501 dL_law_502 dL_law_503 dL_law_504 dL_law_505 ?_
  refine argL (k := 2) hx hb hX hbl hL hw.2.2 hl (by omega) (by decide) dL_law_506 dL_law_507 dL_law_508 dL_law_509 dL_law_510 ?_
  refine gJ (As := [.int (zI (xs (i + 1)).toInt), .int (zI (xs (i + 2)).toInt)]) (rest := [.int (zI r)]) C (fun _ h => h) hw nmM' nmE' ixM0 ixM1 ixM2 ndM' ndE' dsM (fun A => tX11_needs f2) (cwV 2 hts gL_law_X11_needs rfl rfl rfl (by decide +kernel) ⟨Nat.le_of_ble_eq_true rfl, Nat.le_of_ble_eq_true rfl⟩) 11 0 rfl rfl rfl hl.1 rfl (Nat.le_of_ble_eq_true rfl) dL_law_511 ⟨Nat.le_refl _, Nat.le_refl _⟩ (fun H locs hw => ?_)
  exact lv_icmp_eq (tgt := 851) hx hb dL_law_514 (by decide) (fun _ => K σ μ H locs ls hR hw hl) (fun hne => absurd rfl hne)
set_option maxHeartbeats 4000000 in
set_option maxRecDepth 100000 in
theorem lc_allBoiled {p : Program} {l : Launch} {e : Env} {s : State} {m : MethodId} {below : List Frame} {meth : Method} {c : Code} {D : va_G} {q q' : Nat → Nat} {cI cZ : ClassId} {b L i : Nat} {xs : Nat → Int32} (C : Cx p s m #[Value.ref b] meth c D (TY cI cZ) cL_law ret 4 wsL_law RL) (hX : va_X b L xs s s.heap) (hbl : b < s.heap.size) (hL : L ≤ 192) (hi : i + 3 ≤ L) (K : LwK p l e s m below meth c D q q' cI cZ b i 851) : LwK p l e s m below meth c D q q' cI cZ b i 519 := by
  obtain ⟨hx, hb, hr, hml, hown, hts, hlk, hK, hN⟩ := id C
  intro σ μ H locs ls hR hw hl
  obtain ⟨r, τ, ν, f1, f2, hR1⟩ := allBoiled_q hR (rg_of (xs (i + 1))) (rg_of (xs (i + 2)))
  refine lv_aload_n hx hb dL_law_519 rfl (lv_at hl 1 rfl) ?_
  refine argL (k := 1) hx hb hX hbl hL hw.2.2 hl (by omega) (by decide) dL_law_520 dL_law_521 dL_law_522 dL_law_523 dL_law_524 ?_
  refine argL (k := 2) hx hb hX hbl hL hw.2.2 hl (by omega) (by decide) dL_law_525 dL_law_526 dL_law_527 dL_law_528 dL_law_529 ?_
  refine gJ (As := [.int (zI (xs (i + 1)).toInt), .int (zI (xs (i + 2)).toInt)]) (rest := []) C (fun _ h => h) hw nmE nmM ixE0 ixE1 ixE2 ndE ndM dsE (fun A => tX10_allBoiled f1) (cwV 2 hts gL_law_X10_allBoiled rfl rfl rfl (by decide +kernel) ⟨Nat.le_of_ble_eq_true rfl, Nat.le_of_ble_eq_true rfl⟩) 10 0 rfl rfl rfl hl.1 rfl (Nat.le_of_ble_eq_true rfl) dL_law_530 ⟨Nat.le_refl _, Nat.le_refl _⟩ (fun H locs hw => ?_)
  refine lv_aload_n hx hb dL_law_533 rfl (lv_at hl 2 rfl) ?_
  refine argL (k := 1) hx hb hX hbl hL hw.2.2 hl (by omega) (by decide) dL_law_534 dL_law_535 dL_law_536 dL_law_537 dL_law_538 ?_
  refine argL (k := 2) hx hb hX hbl hL hw.2.2 hl (by omega) (by decide) dL_law_539 dL_law_540 dL_law_541 dL_law_542 dL_law_543 ?_
  refine gJ (As := [.int (zI (xs (i + 1)).toInt), .int (zI (xs (i + 2)).toInt)]) (rest := [.int (zI r)]) C (fun _ h => h) hw nmM' nmE' ixM0 ixM1 ixM2 ndM' ndE' dsM (fun A => tX11_allBoiled f2) (cwV 2 hts gL_law_X11_allBoiled rfl rfl rfl (by decide +kernel) ⟨Nat.le_of_ble_eq_true rfl, Nat.le_of_ble_eq_true rfl⟩) 11 0 rfl rfl rfl hl.1 rfl (Nat.le_of_ble_eq_true rfl) dL_law_544 ⟨Nat.le_refl _, Nat.le_refl _⟩ (fun H locs hw => ?_)
  exact lv_icmp_eq (tgt := 851) hx hb dL_law_547 (by decide) (fun _ => K τ ν H locs ls hR1 hw hl) (fun hne => absurd rfl hne)
set_option maxHeartbeats 4000000 in
set_option maxRecDepth 100000 in
theorem lc_dynasty {p : Program} {l : Launch} {e : Env} {s : State} {m : MethodId} {below : List Frame} {meth : Method} {c : Code} {D : va_G} {q q' : Nat → Nat} {cI cZ : ClassId} {b L i : Nat} {xs : Nat → Int32} (C : Cx p s m #[Value.ref b] meth c D (TY cI cZ) cL_law ret 4 wsL_law RL) (hX : va_X b L xs s s.heap) (hbl : b < s.heap.size) (hL : L ≤ 192) (hi : i + 3 ≤ L) (K : LwK p l e s m below meth c D q q' cI cZ b i 851) : LwK p l e s m below meth c D q q' cI cZ b i 552 := by
  obtain ⟨hx, hb, hr, hml, hown, hts, hlk, hK, hN⟩ := id C
  intro σ μ H locs ls hR hw hl
  obtain ⟨r, τ, f1, f2, hR1⟩ := dynasty_q hR (rg_of (xs (i + 1)))
  refine lv_aload_n hx hb dL_law_552 rfl (lv_at hl 1 rfl) ?_
  refine argL (k := 1) hx hb hX hbl hL hw.2.2 hl (by omega) (by decide) dL_law_553 dL_law_554 dL_law_555 dL_law_556 dL_law_557 ?_
  refine gJ (As := [.int (zI (xs (i + 1)).toInt)]) (rest := []) C (fun _ h => h) hw nmE nmM ixE0 ixE1 ixE2 ndE ndM dsE (fun A => tX10_dynasty f1) (cwV 1 hts gL_law_X10_dynasty rfl rfl rfl (by decide +kernel) ⟨Nat.le_of_ble_eq_true rfl, Nat.le_of_ble_eq_true rfl⟩) 10 0 rfl rfl rfl hl.1 rfl (Nat.le_of_ble_eq_true rfl) dL_law_558 ⟨Nat.le_refl _, Nat.le_refl _⟩ (fun H locs hw => ?_)
  refine lv_aload_n hx hb dL_law_561 rfl (lv_at hl 2 rfl) ?_
  refine argL (k := 1) hx hb hX hbl hL hw.2.2 hl (by omega) (by decide) dL_law_562 dL_law_563 dL_law_564 dL_law_565 dL_law_566 ?_
  refine gJ (As := [.int (zI (xs (i + 1)).toInt)]) (rest := [.int (zI r)]) C (fun _ h => h) hw nmM' nmE' ixM0 ixM1 ixM2 ndM' ndE' dsM (fun A => tX11_dynasty f2) (cwV 1 hts gL_law_X11_dynasty rfl rfl rfl (by decide +kernel) ⟨Nat.le_of_ble_eq_true rfl, Nat.le_of_ble_eq_true rfl⟩) 11 0 rfl rfl rfl hl.1 rfl (Nat.le_of_ble_eq_true rfl) dL_law_567 ⟨Nat.le_refl _, Nat.le_refl _⟩ (fun H locs hw => ?_)
  exact lv_icmp_eq (tgt := 851) hx hb dL_law_570 (by decide) (fun _ => K τ μ H locs ls hR1 hw hl) (fun hne => absurd rfl hne)
set_option maxHeartbeats 4000000 in
set_option maxRecDepth 100000 in
theorem lc_liked {p : Program} {l : Launch} {e : Env} {s : State} {m : MethodId} {below : List Frame} {meth : Method} {c : Code} {D : va_G} {q q' : Nat → Nat} {cI cZ : ClassId} {b L i : Nat} {xs : Nat → Int32} (C : Cx p s m #[Value.ref b] meth c D (TY cI cZ) cL_law ret 4 wsL_law RL) (hX : va_X b L xs s s.heap) (hbl : b < s.heap.size) (hL : L ≤ 192) (hi : i + 3 ≤ L) (K : LwK p l e s m below meth c D q q' cI cZ b i 851) : LwK p l e s m below meth c D q q' cI cZ b i 575 := by
  obtain ⟨hx, hb, hr, hml, hown, hts, hlk, hK, hN⟩ := id C
  intro σ μ H locs ls hR hw hl
  obtain ⟨r, τ, ν, f1, f2, hR1⟩ := liked_q hR (rg_of (xs (i + 1)))
  refine lv_aload_n hx hb dL_law_575 rfl (lv_at hl 1 rfl) ?_
  refine argL (k := 1) hx hb hX hbl hL hw.2.2 hl (by omega) (by decide) dL_law_576 dL_law_577 dL_law_578 dL_law_579 dL_law_580 ?_
  refine gJ (As := [.int (zI (xs (i + 1)).toInt)]) (rest := []) C (fun _ h => h) hw nmE nmM ixE0 ixE1 ixE2 ndE ndM dsE (fun A => tX10_liked f1) (cwV 1 hts gL_law_X10_liked rfl rfl rfl (by decide +kernel) ⟨Nat.le_of_ble_eq_true rfl, Nat.le_of_ble_eq_true rfl⟩) 10 0 rfl rfl rfl hl.1 rfl (Nat.le_of_ble_eq_true rfl) dL_law_581 ⟨Nat.le_refl _, Nat.le_refl _⟩ (fun H locs hw => ?_)
  refine lv_aload_n hx hb dL_law_584 rfl (lv_at hl 2 rfl) ?_
  refine argL (k := 1) hx hb hX hbl hL hw.2.2 hl (by omega) (by decide) dL_law_585 dL_law_586 dL_law_587 dL_law_588 dL_law_589 ?_
  refine gJ (As := [.int (zI (xs (i + 1)).toInt)]) (rest := [.int (zI r)]) C (fun _ h => h) hw nmM' nmE' ixM0 ixM1 ixM2 ndM' ndE' dsM (fun A => tX11_liked f2) (cwV 1 hts gL_law_X11_liked rfl rfl rfl (by decide +kernel) ⟨Nat.le_of_ble_eq_true rfl, Nat.le_of_ble_eq_true rfl⟩) 11 0 rfl rfl rfl hl.1 rfl (Nat.le_of_ble_eq_true rfl) dL_law_590 ⟨Nat.le_refl _, Nat.le_refl _⟩ (fun H locs hw => ?_)
  exact lv_icmp_eq (tgt := 851) hx hb dL_law_593 (by decide) (fun _ => K τ ν H locs ls hR1 hw hl) (fun hne => absurd rfl hne)
set_option maxHeartbeats 4000000 in
set_option maxRecDepth 100000 in
theorem lc_goose {p : Program} {l : Launch} {e : Env} {s : State} {m : MethodId} {below : List Frame} {meth : Method} {c : Code} {D : va_G} {q q' : Nat → Nat} {cI cZ : ClassId} {b L i : Nat} {xs : Nat → Int32} (C : Cx p s m #[Value.ref b] meth c D (TY cI cZ) cL_law ret 4 wsL_law RL) (hX : va_X b L xs s s.heap) (hbl : b < s.heap.size) (hL : L ≤ 192) (hi : i + 3 ≤ L) (K : LwK p l e s m below meth c D q q' cI cZ b i 851) : LwK p l e s m below meth c D q q' cI cZ b i 598 := by
  obtain ⟨hx, hb, hr, hml, hown, hts, hlk, hK, hN⟩ := id C
  intro σ μ H locs ls hR hw hl
  obtain ⟨r, f1, f2⟩ := goose_q hR (rg_of (xs (i + 1))) (rg_of (xs (i + 2)))
  refine lv_aload_n hx hb dL_law_598 rfl (lv_at hl 1 rfl) ?_
  refine argL (k := 1) hx hb hX hbl hL hw.2.2 hl (by omega) (by decide) dL_law_599 dL_law_600 dL_law_601 dL_law_602 dL_law_603 ?_
  refine argL (k := 2) hx hb hX hbl hL hw.2.2 hl (by omega) (by decide) dL_law_604 dL_law_605 dL_law_606 dL_law_607 dL_law_608 ?_
  refine gJ (As := [.int (zI (xs (i + 1)).toInt), .int (zI (xs (i + 2)).toInt)]) (rest := []) C (fun _ h => h) hw nmE nmM ixE0 ixE1 ixE2 ndE ndM dsE (fun A => tX10_goose f1) (cwV 2 hts gL_law_X10_goose rfl rfl rfl (by decide +kernel) ⟨Nat.le_of_ble_eq_true rfl, Nat.le_of_ble_eq_true rfl⟩) 10 0 rfl rfl rfl hl.1 rfl (Nat.le_of_ble_eq_true rfl) dL_law_609 ⟨Nat.le_refl _, Nat.le_refl _⟩ (fun H locs hw => ?_)
  refine lv_aload_n hx hb dL_law_612 rfl (lv_at hl 2 rfl) ?_
  refine argL (k := 1) hx hb hX hbl hL hw.2.2 hl (by omega) (by decide) dL_law_613 dL_law_614 dL_law_615 dL_law_616 dL_law_617 ?_
  refine argL (k := 2) hx hb hX hbl hL hw.2.2 hl (by omega) (by decide) dL_law_618 dL_law_619 dL_law_620 dL_law_621 dL_law_622 ?_
  refine gJ (As := [.int (zI (xs (i + 1)).toInt), .int (zI (xs (i + 2)).toInt)]) (rest := [.int (zI r)]) C (fun _ h => h) hw nmM' nmE' ixM0 ixM1 ixM2 ndM' ndE' dsM (fun A => tX11_goose f2) (cwV 2 hts gL_law_X11_goose rfl rfl rfl (by decide +kernel) ⟨Nat.le_of_ble_eq_true rfl, Nat.le_of_ble_eq_true rfl⟩) 11 0 rfl rfl rfl hl.1 rfl (Nat.le_of_ble_eq_true rfl) dL_law_623 ⟨Nat.le_refl _, Nat.le_refl _⟩ (fun H locs hw => ?_)
  exact lv_icmp_eq (tgt := 851) hx hb dL_law_626 (by decide) (fun _ => K σ μ H locs ls hR hw hl) (fun hne => absurd rfl hne)
set_option maxHeartbeats 4000000 in
set_option maxRecDepth 100000 in
theorem lc_whole {p : Program} {l : Launch} {e : Env} {s : State} {m : MethodId} {below : List Frame} {meth : Method} {c : Code} {D : va_G} {q q' : Nat → Nat} {cI cZ : ClassId} {b L i : Nat} {xs : Nat → Int32} (C : Cx p s m #[Value.ref b] meth c D (TY cI cZ) cL_law ret 4 wsL_law RL) (hX : va_X b L xs s s.heap) (hbl : b < s.heap.size) (hL : L ≤ 192) (hi : i + 3 ≤ L) (K : LwK p l e s m below meth c D q q' cI cZ b i 851) : LwK p l e s m below meth c D q q' cI cZ b i 631 := by
  obtain ⟨hx, hb, hr, hml, hown, hts, hlk, hK, hN⟩ := id C
  intro σ μ H locs ls hR hw hl
  obtain ⟨r, f1, f2⟩ := whole_q (σ := σ) (μ := μ) (rg_of (xs (i + 1))) (rg_of (xs (i + 2)))
  refine lv_aload_n hx hb dL_law_631 rfl (lv_at hl 1 rfl) ?_
  refine argL (k := 1) hx hb hX hbl hL hw.2.2 hl (by omega) (by decide) dL_law_632 dL_law_633 dL_law_634 dL_law_635 dL_law_636 ?_
  refine argL (k := 2) hx hb hX hbl hL hw.2.2 hl (by omega) (by decide) dL_law_637 dL_law_638 dL_law_639 dL_law_640 dL_law_641 ?_
  refine gJ (As := [.int (zI (xs (i + 1)).toInt), .int (zI (xs (i + 2)).toInt)]) (rest := []) C (fun _ h => h) hw nmE nmM ixE0 ixE1 ixE2 ndE ndM dsE (fun A => tX10_whole f1) (cwV 2 hts gL_law_X10_whole rfl rfl rfl (by decide +kernel) ⟨Nat.le_of_ble_eq_true rfl, Nat.le_of_ble_eq_true rfl⟩) 10 0 rfl rfl rfl hl.1 rfl (Nat.le_of_ble_eq_true rfl) dL_law_642 ⟨Nat.le_refl _, Nat.le_refl _⟩ (fun H locs hw => ?_)
  refine lv_aload_n hx hb dL_law_645 rfl (lv_at hl 2 rfl) ?_
  refine argL (k := 1) hx hb hX hbl hL hw.2.2 hl (by omega) (by decide) dL_law_646 dL_law_647 dL_law_648 dL_law_649 dL_law_650 ?_
  refine argL (k := 2) hx hb hX hbl hL hw.2.2 hl (by omega) (by decide) dL_law_651 dL_law_652 dL_law_653 dL_law_654 dL_law_655 ?_
  refine gJ (As := [.int (zI (xs (i + 1)).toInt), .int (zI (xs (i + 2)).toInt)]) (rest := [.int (zI r)]) C (fun _ h => h) hw nmM' nmE' ixM0 ixM1 ixM2 ndM' ndE' dsM (fun A => tX11_whole f2) (cwV 2 hts gL_law_X11_whole rfl rfl rfl (by decide +kernel) ⟨Nat.le_of_ble_eq_true rfl, Nat.le_of_ble_eq_true rfl⟩) 11 0 rfl rfl rfl hl.1 rfl (Nat.le_of_ble_eq_true rfl) dL_law_656 ⟨Nat.le_refl _, Nat.le_refl _⟩ (fun H locs hw => ?_)
  exact lv_icmp_eq (tgt := 851) hx hb dL_law_659 (by decide) (fun _ => K σ μ H locs ls hR hw hl) (fun hne => absurd rfl hne)
set_option maxHeartbeats 4000000 in
set_option maxRecDepth 100000 in
theorem lc_see {p : Program} {l : Launch} {e : Env} {s : State} {m : MethodId} {below : List Frame} {meth : Method} {c : Code} {D : va_G} {q q' : Nat → Nat} {cI cZ : ClassId} {b L i : Nat} {xs : Nat → Int32} (C : Cx p s m #[Value.ref b] meth c D (TY cI cZ) cL_law ret 4 wsL_law RL) (hX : va_X b L xs s s.heap) (hbl : b < s.heap.size) (hL : L ≤ 192) (hi : i + 3 ≤ L) (K : LwK p l e s m below meth c D q q' cI cZ b i 851) : LwK p l e s m below meth c D q q' cI cZ b i 664 := by
  obtain ⟨hx, hb, hr, hml, hown, hts, hlk, hK, hN⟩ := id C
  intro σ μ H locs ls hR hw hl
  obtain ⟨r, τ, ν, f1, f2, hR1⟩ := see_q hR (rg_of (xs (i + 1))) (rg_of (xs (i + 2)))
  refine lv_aload_n hx hb dL_law_664 rfl (lv_at hl 1 rfl) ?_
  refine argL (k := 1) hx hb hX hbl hL hw.2.2 hl (by omega) (by decide) dL_law_665 dL_law_666 dL_law_667 dL_law_668 dL_law_669 ?_
  refine argL (k := 2) hx hb hX hbl hL hw.2.2 hl (by omega) (by decide) dL_law_670 dL_law_671 dL_law_672 dL_law_673 dL_law_674 ?_
  refine gJ (As := [.int (zI (xs (i + 1)).toInt), .int (zI (xs (i + 2)).toInt)]) (rest := []) C (fun _ h => h) hw nmE nmM ixE0 ixE1 ixE2 ndE ndM dsE (fun A => tX10_see f1) (cwV 2 hts gL_law_X10_see rfl rfl rfl (by decide +kernel) ⟨Nat.le_of_ble_eq_true rfl, Nat.le_of_ble_eq_true rfl⟩) 10 0 rfl rfl rfl hl.1 rfl (Nat.le_of_ble_eq_true rfl) dL_law_675 ⟨Nat.le_refl _, Nat.le_refl _⟩ (fun H locs hw => ?_)
  refine lv_aload_n hx hb dL_law_678 rfl (lv_at hl 2 rfl) ?_
  refine argL (k := 1) hx hb hX hbl hL hw.2.2 hl (by omega) (by decide) dL_law_679 dL_law_680 dL_law_681 dL_law_682 dL_law_683 ?_
  refine argL (k := 2) hx hb hX hbl hL hw.2.2 hl (by omega) (by decide) dL_law_684 dL_law_685 dL_law_686 dL_law_687 dL_law_688 ?_
  refine gJ (As := [.int (zI (xs (i + 1)).toInt), .int (zI (xs (i + 2)).toInt)]) (rest := [.int (zI r)]) C (fun _ h => h) hw nmM' nmE' ixM0 ixM1 ixM2 ndM' ndE' dsM (fun A => tX11_see f2) (cwV 2 hts gL_law_X11_see rfl rfl rfl (by decide +kernel) ⟨Nat.le_of_ble_eq_true rfl, Nat.le_of_ble_eq_true rfl⟩) 11 0 rfl rfl rfl hl.1 rfl (Nat.le_of_ble_eq_true rfl) dL_law_689 ⟨Nat.le_refl _, Nat.le_refl _⟩ (fun H locs hw => ?_)
  exact lv_icmp_eq (tgt := 851) hx hb dL_law_692 (by decide) (fun _ => K τ ν H locs ls hR1 hw hl) (fun hne => absurd rfl hne)
set_option maxHeartbeats 4000000 in
set_option maxRecDepth 100000 in
theorem lc_ages {p : Program} {l : Launch} {e : Env} {s : State} {m : MethodId} {below : List Frame} {meth : Method} {c : Code} {D : va_G} {q q' : Nat → Nat} {cI cZ : ClassId} {b L i : Nat} {xs : Nat → Int32} (C : Cx p s m #[Value.ref b] meth c D (TY cI cZ) cL_law ret 4 wsL_law RL) (hX : va_X b L xs s s.heap) (hbl : b < s.heap.size) (hL : L ≤ 192) (hi : i + 3 ≤ L) (K : LwK p l e s m below meth c D q q' cI cZ b i 851) : LwK p l e s m below meth c D q q' cI cZ b i 697 := by
  obtain ⟨hx, hb, hr, hml, hown, hts, hlk, hK, hN⟩ := id C
  intro σ μ H locs ls hR hw hl
  obtain ⟨r, f1, f2⟩ := ages_q hR 
  refine lv_aload_n hx hb dL_law_697 rfl (lv_at hl 1 rfl) ?_
  refine gJ (As := []) (rest := []) C (fun _ h => h) hw nmE nmM ixE0 ixE1 ixE2 ndE ndM dsE (fun A => tX10_ages f1) (cwV 0 hts gL_law_X10_ages rfl rfl rfl (by decide +kernel) ⟨Nat.le_of_ble_eq_true rfl, Nat.le_of_ble_eq_true rfl⟩) 10 0 rfl rfl rfl hl.1 rfl (Nat.le_of_ble_eq_true rfl) dL_law_698 ⟨Nat.le_refl _, Nat.le_refl _⟩ (fun H locs hw => ?_)
  refine lv_aload_n hx hb dL_law_701 rfl (lv_at hl 2 rfl) ?_
  refine gJ (As := []) (rest := [.int (zI r)]) C (fun _ h => h) hw nmM' nmE' ixM0 ixM1 ixM2 ndM' ndE' dsM (fun A => tX11_ages f2) (cwV 0 hts gL_law_X11_ages rfl rfl rfl (by decide +kernel) ⟨Nat.le_of_ble_eq_true rfl, Nat.le_of_ble_eq_true rfl⟩) 11 0 rfl rfl rfl hl.1 rfl (Nat.le_of_ble_eq_true rfl) dL_law_702 ⟨Nat.le_refl _, Nat.le_refl _⟩ (fun H locs hw => ?_)
  exact lv_icmp_eq (tgt := 851) hx hb dL_law_705 (by decide) (fun _ => K σ μ H locs ls hR hw hl) (fun hne => absurd rfl hne)
set_option maxHeartbeats 4000000 in
set_option maxRecDepth 100000 in
theorem lc_testNext {p : Program} {l : Launch} {e : Env} {s : State} {m : MethodId} {below : List Frame} {meth : Method} {c : Code} {D : va_G} {q q' : Nat → Nat} {cI cZ : ClassId} {b L i : Nat} {xs : Nat → Int32} (C : Cx p s m #[Value.ref b] meth c D (TY cI cZ) cL_law ret 4 wsL_law RL) (hX : va_X b L xs s s.heap) (hbl : b < s.heap.size) (hL : L ≤ 192) (hi : i + 3 ≤ L) (K : LwK p l e s m below meth c D q q' cI cZ b i 851) : LwK p l e s m below meth c D q q' cI cZ b i 710 := by
  obtain ⟨hx, hb, hr, hml, hown, hts, hlk, hK, hN⟩ := id C
  intro σ μ H locs ls hR hw hl
  obtain ⟨r, ν, f1, f2, hR1⟩ := testNext_q hR 
  refine lv_aload_n hx hb dL_law_710 rfl (lv_at hl 1 rfl) ?_
  refine gJ (As := []) (rest := []) C (fun _ h => h) hw nmE nmM ixE0 ixE1 ixE2 ndE ndM dsE (fun A => tX10_testNext f1) (cwV 0 hts gL_law_X10_testNext rfl rfl rfl (by decide +kernel) ⟨Nat.le_of_ble_eq_true rfl, Nat.le_of_ble_eq_true rfl⟩) 10 0 rfl rfl rfl hl.1 rfl (Nat.le_of_ble_eq_true rfl) dL_law_711 ⟨Nat.le_refl _, Nat.le_refl _⟩ (fun H locs hw => ?_)
  refine lv_aload_n hx hb dL_law_714 rfl (lv_at hl 2 rfl) ?_
  refine gJ (As := []) (rest := [.int (zI r)]) C (fun _ h => h) hw nmM' nmE' ixM0 ixM1 ixM2 ndM' ndE' dsM (fun A => tX11_testNext f2) (cwV 0 hts gL_law_X11_testNext rfl rfl rfl (by decide +kernel) ⟨Nat.le_of_ble_eq_true rfl, Nat.le_of_ble_eq_true rfl⟩) 11 0 rfl rfl rfl hl.1 rfl (Nat.le_of_ble_eq_true rfl) dL_law_715 ⟨Nat.le_refl _, Nat.le_refl _⟩ (fun H locs hw => ?_)
  exact lv_icmp_eq (tgt := 851) hx hb dL_law_718 (by decide) (fun _ => K σ ν H locs ls hR1 hw hl) (fun hne => absurd rfl hne)
set_option maxHeartbeats 4000000 in
set_option maxRecDepth 100000 in
theorem lc_write {p : Program} {l : Launch} {e : Env} {s : State} {m : MethodId} {below : List Frame} {meth : Method} {c : Code} {D : va_G} {q q' : Nat → Nat} {cI cZ : ClassId} {b L i : Nat} {xs : Nat → Int32} (C : Cx p s m #[Value.ref b] meth c D (TY cI cZ) cL_law ret 4 wsL_law RL) (hX : va_X b L xs s s.heap) (hbl : b < s.heap.size) (hL : L ≤ 192) (hi : i + 3 ≤ L) (K : LwK p l e s m below meth c D q q' cI cZ b i 851) : LwK p l e s m below meth c D q q' cI cZ b i 723 := by
  obtain ⟨hx, hb, hr, hml, hown, hts, hlk, hK, hN⟩ := id C
  intro σ μ H locs ls hR hw hl
  obtain ⟨r, τ, ν, f1, f2, hR1⟩ := write_q hR (rg_of (xs (i + 1))) (rg_of (xs (i + 2)))
  refine lv_aload_n hx hb dL_law_723 rfl (lv_at hl 1 rfl) ?_
  refine argL (k := 1) hx hb hX hbl hL hw.2.2 hl (by omega) (by decide) dL_law_724 dL_law_725 dL_law_726 dL_law_727 dL_law_728 ?_
  refine argL (k := 2) hx hb hX hbl hL hw.2.2 hl (by omega) (by decide) dL_law_729 dL_law_730 dL_law_731 dL_law_732 dL_law_733 ?_
  refine gJ (As := [.int (zI (xs (i + 1)).toInt), .int (zI (xs (i + 2)).toInt)]) (rest := []) C (fun _ h => h) hw nmE nmM ixE0 ixE1 ixE2 ndE ndM dsE (fun A => tX10_write f1) (cwV 2 hts gL_law_X10_write rfl rfl rfl (by decide +kernel) ⟨Nat.le_of_ble_eq_true rfl, Nat.le_of_ble_eq_true rfl⟩) 10 0 rfl rfl rfl hl.1 rfl (Nat.le_of_ble_eq_true rfl) dL_law_734 ⟨Nat.le_refl _, Nat.le_refl _⟩ (fun H locs hw => ?_)
  refine lv_aload_n hx hb dL_law_737 rfl (lv_at hl 2 rfl) ?_
  refine argL (k := 1) hx hb hX hbl hL hw.2.2 hl (by omega) (by decide) dL_law_738 dL_law_739 dL_law_740 dL_law_741 dL_law_742 ?_
  refine argL (k := 2) hx hb hX hbl hL hw.2.2 hl (by omega) (by decide) dL_law_743 dL_law_744 dL_law_745 dL_law_746 dL_law_747 ?_
  refine gJ (As := [.int (zI (xs (i + 1)).toInt), .int (zI (xs (i + 2)).toInt)]) (rest := [.int (zI r)]) C (fun _ h => h) hw nmM' nmE' ixM0 ixM1 ixM2 ndM' ndE' dsM (fun A => tX11_write f2) (cwV 2 hts gL_law_X11_write rfl rfl rfl (by decide +kernel) ⟨Nat.le_of_ble_eq_true rfl, Nat.le_of_ble_eq_true rfl⟩) 11 0 rfl rfl rfl hl.1 rfl (Nat.le_of_ble_eq_true rfl) dL_law_748 ⟨Nat.le_refl _, Nat.le_refl _⟩ (fun H locs hw => ?_)
  exact lv_icmp_eq (tgt := 851) hx hb dL_law_751 (by decide) (fun _ => K τ ν H locs ls hR1 hw hl) (fun hne => absurd rfl hne)
set_option maxHeartbeats 4000000 in
set_option maxRecDepth 100000 in
theorem lc_tear {p : Program} {l : Launch} {e : Env} {s : State} {m : MethodId} {below : List Frame} {meth : Method} {c : Code} {D : va_G} {q q' : Nat → Nat} {cI cZ : ClassId} {b L i : Nat} {xs : Nat → Int32} (C : Cx p s m #[Value.ref b] meth c D (TY cI cZ) cL_law ret 4 wsL_law RL) (hX : va_X b L xs s s.heap) (hbl : b < s.heap.size) (hL : L ≤ 192) (hi : i + 3 ≤ L) (K : LwK p l e s m below meth c D q q' cI cZ b i 851) : LwK p l e s m below meth c D q q' cI cZ b i 756 := by
  obtain ⟨hx, hb, hr, hml, hown, hts, hlk, hK, hN⟩ := id C
  intro σ μ H locs ls hR hw hl
  obtain ⟨r, τ, ν, f1, f2, hR1⟩ := tear_q hR 
  refine lv_aload_n hx hb dL_law_756 rfl (lv_at hl 1 rfl) ?_
  refine gJ (As := []) (rest := []) C (fun _ h => h) hw nmE nmM ixE0 ixE1 ixE2 ndE ndM dsE (fun A => tX10_tear f1) (cwV 0 hts gL_law_X10_tear rfl rfl rfl (by decide +kernel) ⟨Nat.le_of_ble_eq_true rfl, Nat.le_of_ble_eq_true rfl⟩) 10 0 rfl rfl rfl hl.1 rfl (Nat.le_of_ble_eq_true rfl) dL_law_757 ⟨Nat.le_refl _, Nat.le_refl _⟩ (fun H locs hw => ?_)
  refine lv_aload_n hx hb dL_law_760 rfl (lv_at hl 2 rfl) ?_
  refine gJ (As := []) (rest := [.int (zI r)]) C (fun _ h => h) hw nmM' nmE' ixM0 ixM1 ixM2 ndM' ndE' dsM (fun A => tX11_tear f2) (cwV 0 hts gL_law_X11_tear rfl rfl rfl (by decide +kernel) ⟨Nat.le_of_ble_eq_true rfl, Nat.le_of_ble_eq_true rfl⟩) 11 0 rfl rfl rfl hl.1 rfl (Nat.le_of_ble_eq_true rfl) dL_law_761 ⟨Nat.le_refl _, Nat.le_refl _⟩ (fun H locs hw => ?_)
  exact lv_icmp_eq (tgt := 851) hx hb dL_law_764 (by decide) (fun _ => K τ ν H locs ls hR1 hw hl) (fun hne => absurd rfl hne)
set_option maxHeartbeats 4000000 in
set_option maxRecDepth 100000 in
theorem lc_judge {p : Program} {l : Launch} {e : Env} {s : State} {m : MethodId} {below : List Frame} {meth : Method} {c : Code} {D : va_G} {q q' : Nat → Nat} {cI cZ : ClassId} {b L i : Nat} {xs : Nat → Int32} (C : Cx p s m #[Value.ref b] meth c D (TY cI cZ) cL_law ret 4 wsL_law RL) (hX : va_X b L xs s s.heap) (hbl : b < s.heap.size) (hL : L ≤ 192) (hi : i + 3 ≤ L) (K : LwK p l e s m below meth c D q q' cI cZ b i 851) : LwK p l e s m below meth c D q q' cI cZ b i 769 := by
  obtain ⟨hx, hb, hr, hml, hown, hts, hlk, hK, hN⟩ := id C
  intro σ μ H locs ls hR hw hl
  obtain ⟨r, f1, f2⟩ := judge_q hR 
  refine lv_aload_n hx hb dL_law_769 rfl (lv_at hl 1 rfl) ?_
  refine gJ (As := []) (rest := []) C (fun _ h => h) hw nmE nmM ixE0 ixE1 ixE2 ndE ndM dsE (fun A => tX10_judge f1) (cwV 0 hts gL_law_X10_judge rfl rfl rfl (by decide +kernel) ⟨Nat.le_of_ble_eq_true rfl, Nat.le_of_ble_eq_true rfl⟩) 10 0 rfl rfl rfl hl.1 rfl (Nat.le_of_ble_eq_true rfl) dL_law_770 ⟨Nat.le_refl _, Nat.le_refl _⟩ (fun H locs hw => ?_)
  refine lv_aload_n hx hb dL_law_773 rfl (lv_at hl 2 rfl) ?_
  refine gJ (As := []) (rest := [.int (zI r)]) C (fun _ h => h) hw nmM' nmE' ixM0 ixM1 ixM2 ndM' ndE' dsM (fun A => tX11_judge f2) (cwV 0 hts gL_law_X11_judge rfl rfl rfl (by decide +kernel) ⟨Nat.le_of_ble_eq_true rfl, Nat.le_of_ble_eq_true rfl⟩) 11 0 rfl rfl rfl hl.1 rfl (Nat.le_of_ble_eq_true rfl) dL_law_774 ⟨Nat.le_refl _, Nat.le_refl _⟩ (fun H locs hw => ?_)
  exact lv_icmp_eq (tgt := 851) hx hb dL_law_777 (by decide) (fun _ => K σ μ H locs ls hR hw hl) (fun hne => absurd rfl hne)
set_option maxHeartbeats 4000000 in
set_option maxRecDepth 100000 in
theorem lc_seed {p : Program} {l : Launch} {e : Env} {s : State} {m : MethodId} {below : List Frame} {meth : Method} {c : Code} {D : va_G} {q q' : Nat → Nat} {cI cZ : ClassId} {b L i : Nat} {xs : Nat → Int32} (C : Cx p s m #[Value.ref b] meth c D (TY cI cZ) cL_law ret 4 wsL_law RL) (hX : va_X b L xs s s.heap) (hbl : b < s.heap.size) (hL : L ≤ 192) (hi : i + 3 ≤ L) (K : LwK p l e s m below meth c D q q' cI cZ b i 851) : LwK p l e s m below meth c D q q' cI cZ b i 782 := by
  obtain ⟨hx, hb, hr, hml, hown, hts, hlk, hK, hN⟩ := id C
  intro σ μ H locs ls hR hw hl
  obtain ⟨r, τ, ν, f1, f2, hR1⟩ := seed_q hR (rg_of (xs (i + 1)))
  refine lv_aload_n hx hb dL_law_782 rfl (lv_at hl 1 rfl) ?_
  refine argL (k := 1) hx hb hX hbl hL hw.2.2 hl (by omega) (by decide) dL_law_783 dL_law_784 dL_law_785 dL_law_786 dL_law_787 ?_
  refine gJ (As := [.int (zI (xs (i + 1)).toInt)]) (rest := []) C (fun _ h => h) hw nmE nmM ixE0 ixE1 ixE2 ndE ndM dsE (fun A => tX10_seed f1) (cwV 1 hts gL_law_X10_seed rfl rfl rfl (by decide +kernel) ⟨Nat.le_of_ble_eq_true rfl, Nat.le_of_ble_eq_true rfl⟩) 10 0 rfl rfl rfl hl.1 rfl (Nat.le_of_ble_eq_true rfl) dL_law_788 ⟨Nat.le_refl _, Nat.le_refl _⟩ (fun H locs hw => ?_)
  refine lv_aload_n hx hb dL_law_791 rfl (lv_at hl 2 rfl) ?_
  refine argL (k := 1) hx hb hX hbl hL hw.2.2 hl (by omega) (by decide) dL_law_792 dL_law_793 dL_law_794 dL_law_795 dL_law_796 ?_
  refine gJ (As := [.int (zI (xs (i + 1)).toInt)]) (rest := [.int (zI r)]) C (fun _ h => h) hw nmM' nmE' ixM0 ixM1 ixM2 ndM' ndE' dsM (fun A => tX11_seed f2) (cwV 1 hts gL_law_X11_seed rfl rfl rfl (by decide +kernel) ⟨Nat.le_of_ble_eq_true rfl, Nat.le_of_ble_eq_true rfl⟩) 11 0 rfl rfl rfl hl.1 rfl (Nat.le_of_ble_eq_true rfl) dL_law_797 ⟨Nat.le_refl _, Nat.le_refl _⟩ (fun H locs hw => ?_)
  exact lv_icmp_eq (tgt := 851) hx hb dL_law_800 (by decide) (fun _ => K τ ν H locs ls hR1 hw hl) (fun hne => absurd rfl hne)
set_option maxHeartbeats 4000000 in
set_option maxRecDepth 100000 in
theorem lc_keep {p : Program} {l : Launch} {e : Env} {s : State} {m : MethodId} {below : List Frame} {meth : Method} {c : Code} {D : va_G} {q q' : Nat → Nat} {cI cZ : ClassId} {b L i : Nat} {xs : Nat → Int32} (C : Cx p s m #[Value.ref b] meth c D (TY cI cZ) cL_law ret 4 wsL_law RL) (hX : va_X b L xs s s.heap) (hbl : b < s.heap.size) (hL : L ≤ 192) (hi : i + 3 ≤ L) (K : LwK p l e s m below meth c D q q' cI cZ b i 851) : LwK p l e s m below meth c D q q' cI cZ b i 805 := by
  obtain ⟨hx, hb, hr, hml, hown, hts, hlk, hK, hN⟩ := id C
  intro σ μ H locs ls hR hw hl
  obtain ⟨r, τ, ν, f1, f2, hR1⟩ := keep_q hR (rg_of (xs (i + 1)))
  refine lv_aload_n hx hb dL_law_805 rfl (lv_at hl 1 rfl) ?_
  refine argL (k := 1) hx hb hX hbl hL hw.2.2 hl (by omega) (by decide) dL_law_806 dL_law_807 dL_law_808 dL_law_809 dL_law_810 ?_
  refine gJ (As := [.int (zI (xs (i + 1)).toInt)]) (rest := []) C (fun _ h => h) hw nmE nmM ixE0 ixE1 ixE2 ndE ndM dsE (fun A => tX10_keep f1) (cwV 1 hts gL_law_X10_keep rfl rfl rfl (by decide +kernel) ⟨Nat.le_of_ble_eq_true rfl, Nat.le_of_ble_eq_true rfl⟩) 10 0 rfl rfl rfl hl.1 rfl (Nat.le_of_ble_eq_true rfl) dL_law_811 ⟨Nat.le_refl _, Nat.le_refl _⟩ (fun H locs hw => ?_)
  refine lv_aload_n hx hb dL_law_814 rfl (lv_at hl 2 rfl) ?_
  refine argL (k := 1) hx hb hX hbl hL hw.2.2 hl (by omega) (by decide) dL_law_815 dL_law_816 dL_law_817 dL_law_818 dL_law_819 ?_
  refine gJ (As := [.int (zI (xs (i + 1)).toInt)]) (rest := [.int (zI r)]) C (fun _ h => h) hw nmM' nmE' ixM0 ixM1 ixM2 ndM' ndE' dsM (fun A => tX11_keep f2) (cwV 1 hts gL_law_X11_keep rfl rfl rfl (by decide +kernel) ⟨Nat.le_of_ble_eq_true rfl, Nat.le_of_ble_eq_true rfl⟩) 11 0 rfl rfl rfl hl.1 rfl (Nat.le_of_ble_eq_true rfl) dL_law_820 ⟨Nat.le_refl _, Nat.le_refl _⟩ (fun H locs hw => ?_)
  exact lv_icmp_eq (tgt := 851) hx hb dL_law_823 (by decide) (fun _ => K τ ν H locs ls hR1 hw hl) (fun hne => absurd rfl hne)
set_option maxHeartbeats 4000000 in
set_option maxRecDepth 100000 in
theorem lc_goBack {p : Program} {l : Launch} {e : Env} {s : State} {m : MethodId} {below : List Frame} {meth : Method} {c : Code} {D : va_G} {q q' : Nat → Nat} {cI cZ : ClassId} {b L i : Nat} {xs : Nat → Int32} (C : Cx p s m #[Value.ref b] meth c D (TY cI cZ) cL_law ret 4 wsL_law RL) (hX : va_X b L xs s s.heap) (hbl : b < s.heap.size) (hL : L ≤ 192) (hi : i + 3 ≤ L) (K : LwK p l e s m below meth c D q q' cI cZ b i 851) : LwK p l e s m below meth c D q q' cI cZ b i 828 := by
  obtain ⟨hx, hb, hr, hml, hown, hts, hlk, hK, hN⟩ := id C
  intro σ μ H locs ls hR hw hl
  obtain ⟨r, τ, ν, f1, f2, hR1⟩ := goBack_q hR (rg_of (xs (i + 1)))
  refine lv_aload_n hx hb dL_law_828 rfl (lv_at hl 1 rfl) ?_
  refine argL (k := 1) hx hb hX hbl hL hw.2.2 hl (by omega) (by decide) dL_law_829 dL_law_830 dL_law_831 dL_law_832 dL_law_833 ?_
  refine gJ (As := [.int (zI (xs (i + 1)).toInt)]) (rest := []) C (fun _ h => h) hw nmE nmM ixE0 ixE1 ixE2 ndE ndM dsE (fun A => tX10_goBack f1) (cwV 1 hts gL_law_X10_goBack rfl rfl rfl (by decide +kernel) ⟨Nat.le_of_ble_eq_true rfl, Nat.le_of_ble_eq_true rfl⟩) 10 0 rfl rfl rfl hl.1 rfl (Nat.le_of_ble_eq_true rfl) dL_law_834 ⟨Nat.le_refl _, Nat.le_refl _⟩ (fun H locs hw => ?_)
  refine lv_aload_n hx hb dL_law_837 rfl (lv_at hl 2 rfl) ?_
  refine argL (k := 1) hx hb hX hbl hL hw.2.2 hl (by omega) (by decide) dL_law_838 dL_law_839 dL_law_840 dL_law_841 dL_law_842 ?_
  refine gJ (As := [.int (zI (xs (i + 1)).toInt)]) (rest := [.int (zI r)]) C (fun _ h => h) hw nmM' nmE' ixM0 ixM1 ixM2 ndM' ndE' dsM (fun A => tX11_goBack f2) (cwV 1 hts gL_law_X11_goBack rfl rfl rfl (by decide +kernel) ⟨Nat.le_of_ble_eq_true rfl, Nat.le_of_ble_eq_true rfl⟩) 11 0 rfl rfl rfl hl.1 rfl (Nat.le_of_ble_eq_true rfl) dL_law_843 ⟨Nat.le_refl _, Nat.le_refl _⟩ (fun H locs hw => ?_)
  exact lv_icmp_eq (tgt := 851) hx hb dL_law_846 (by decide) (fun _ => K τ ν H locs ls hR1 hw hl) (fun hne => absurd rfl hne)
