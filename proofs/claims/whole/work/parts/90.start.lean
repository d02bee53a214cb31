theorem rel_init : Rel iE iM := by
  have n0 : ∀ e : Nat, ¬ ((e : Int) < 0) := fun e h => by omega
  refine ⟨⟨rfl, rfl, rfl, rfl, by decide, by decide, by decide, by decide, fun _ => ⟨rfl, rfl⟩, fun e he => absurd he (n0 e), fun e he => absurd he (n0 e)⟩, ⟨rfl, by decide, fun e he => absurd he (n0 e)⟩, ⟨⟨rfl, by decide, by decide⟩, ⟨rfl, by decide, by decide⟩⟩, ⟨fun e he => absurd he (n0 e), ⟨rfl, by decide, by decide⟩, ⟨rfl, by decide, by decide⟩, ⟨rfl, by decide, by decide⟩, ⟨rfl, by decide, by decide⟩, ⟨rfl, by decide, by decide⟩, Or.inl ⟨rfl, fun e he => absurd he (n0 e), rfl⟩⟩, ⟨by decide, rfl, by decide, fun e he => absurd he (n0 e)⟩, fun i hi => ⟨rfl, Or.inl rfl, fun h => absurd (show (0 : Int) = 1 from h) (by decide)⟩, ⟨rfl, by decide, fun e he => absurd he (n0 e)⟩, ⟨rfl, by decide, fun e he => absurd he (n0 e)⟩⟩
theorem nest_tab : ∀ w ∈ nestL, w.onTables = true := by
  intro w hw
  rcases nest_kind w hw with ⟨a, i, b, n, d, h', rfl⟩ | ⟨a, i, x, h', rfl⟩ <;> rfl
theorem arrC {s : State} {args : Array Value} {ty : FieldType} (h : (Cond.arrayClass ty).before args s = true) (hp : ∀ C, ty ≠ .object C := by intro C h; cases h) : ∃ cA, ArrOfT s cA ty ∧ va_RA s cA ty := by
  obtain ⟨cA, kA, comp, h1, h2, h3⟩ := Cond.arrayClass_spec h
  refine ⟨cA, fun n z => ⟨fun k h => (by cases h), kA, h2, comp, h3⟩, ?_⟩
  cases ty with
  | object C => exact absurd rfl (hp C)
  | _ => exact h1
set_option maxHeartbeats 4000000 in
set_option maxRecDepth 100000 in
theorem whole_start {p : Program} {e : Env} {s : State} {m : MethodId} {below : List Frame} {meth : Method} {c : Code} (l : Launch) {b L : Nat} {xs : Nat → Int32} (hL : L ≤ 192) (C0 : lw_At p s m meth c b L xs) : W p l e room_1 s m #[Value.ref b] below meth c s.heap [] 0 0 (lw_Z below #[Value.ref b] s) (entryFrame m ([Value.ref b] : List Value).toArray 4) := by
  obtain ⟨hx, hb, hr, hml, hown, hts0, hX, hbl, hlk, hgv⟩ := id C0
  have hts : ∀ w ∈ wsL_law, w.before #[Value.ref b] s = true := fun w h => hts0 w (wsL_law_in w h)
  have hA : ∀ z : Nat, s.heap.size ≤ z → A0 s z := fun _ h => h
  obtain ⟨c0, iS0, hKn0⟩ := u_known (C := RX0) (T := TX0) (N := 6) (n := 6) hts0 inX0 (hts (.instantiable RX0 6) (List.mem_of_getElem? (i := 42) rfl))
  obtain ⟨c1, iS1, hKn1⟩ := u_known (C := RX1) (T := TX1) (N := 3) (n := 3) hts0 inX1 (hts (.instantiable RX1 3) (List.mem_of_getElem? (i := 38) rfl))
  obtain ⟨c2, iS2, hKn2⟩ := u_known (C := RX2) (T := TX2) (N := 3) (n := 3) hts0 inX2 (hts (.instantiable RX2 3) (List.mem_of_getElem? (i := 34) rfl))
  obtain ⟨c3, iS3, hKn3⟩ := u_known (C := RX3) (T := TX3) (N := 3) (n := 3) hts0 inX3 (hts (.instantiable RX3 3) (List.mem_of_getElem? (i := 30) rfl))
  obtain ⟨c4, iS4, hKn4⟩ := u_known (C := RX4) (T := TX4) (N := 9) (n := 9) hts0 inX4 (hts (.instantiable RX4 9) (List.mem_of_getElem? (i := 22) rfl))
  obtain ⟨c5, iS5, hKn5⟩ := u_known (C := RX5) (T := TX5) (N := 3) (n := 3) hts0 inX5 (hts (.instantiable RX5 3) (List.mem_of_getElem? (i := 26) rfl))
  obtain ⟨c6, iS6, hKn6⟩ := u_known (C := RX6) (T := TX6) (N := 1) (n := 1) hts0 inX6 (hts (.instantiable RX6 1) (List.mem_of_getElem? (i := 50) rfl))
  obtain ⟨c7, iS7, hKn7⟩ := u_known (C := RX7) (T := TX7) (N := 3) (n := 3) hts0 inX7 (hts (.instantiable RX7 3) (List.mem_of_getElem? (i := 46) rfl))
  obtain ⟨c8, iS8, hKn8⟩ := u_known (C := RX8) (T := TX8) (N := 10) (n := 10) hts0 inX8 (hts (.instantiable RX8 10) (List.mem_of_getElem? (i := 13) rfl))
  obtain ⟨c9, iS9, hKn9⟩ := u_known (C := RX9) (T := TX9) (N := 5) (n := 5) hts0 inX9 (hts (.instantiable RX9 5) (List.mem_of_getElem? (i := 16) rfl))
  obtain ⟨c10, iS10, hKn10⟩ := u_known (C := RX10) (T := TX10) (N := 13) (n := 13) hts0 inX10 (hts (.instantiable RX10 13) (List.mem_of_getElem? (i := 1) rfl))
  obtain ⟨c11, iS11, hKn11⟩ := u_known (C := RX11) (T := TX11) (N := 40) (n := 40) hts0 inX11 (hts (.instantiable RX11 40) (List.mem_of_getElem? (i := 4) rfl))
  obtain ⟨dC, dI, hKc⟩ : ∃ (dC : Nat → ClassId) (dI : Nat → Nat → Nat), ∀ (k : Nat) (q : vw_C), vwCl[k]? = some q → u_Kn s q.1 q.2.1 q.2.2 (dC k) (dI k) := by
    refine ⟨fun k => match k with | 0 => c0 | 1 => c1 | 2 => c2 | 3 => c3 | 4 => c4 | 5 => c5 | 6 => c6 | 7 => c7 | 8 => c8 | 9 => c9 | 10 => c10 | _ => c11, fun k => match k with | 0 => iS0 | 1 => iS1 | 2 => iS2 | 3 => iS3 | 4 => iS4 | 5 => iS5 | 6 => iS6 | 7 => iS7 | 8 => iS8 | 9 => iS9 | 10 => iS10 | _ => iS11, ?_⟩
    intro k q hq
    match k, hq with
    | 0, hq => cases hq; exact hKn0
    | 1, hq => cases hq; exact hKn1
    | 2, hq => cases hq; exact hKn2
    | 3, hq => cases hq; exact hKn3
    | 4, hq => cases hq; exact hKn4
    | 5, hq => cases hq; exact hKn5
    | 6, hq => cases hq; exact hKn6
    | 7, hq => cases hq; exact hKn7
    | 8, hq => cases hq; exact hKn8
    | 9, hq => cases hq; exact hKn9
    | 10, hq => cases hq; exact hKn10
    | 11, hq => cases hq; exact hKn11
    | k + 12, hq => simp [vwCl] at hq
  obtain ⟨cI, hI1, hI2⟩ := arrC (hts (.arrayClass .int) (List.mem_of_getElem? (i := 59) rfl))
  obtain ⟨cZ, hZ1, hZ2⟩ := arrC (hts (.arrayClass .boolean) (List.mem_of_getElem? (i := 105) rfl))
  have hK : va_K (dC, dI) vwCl (TY cI cZ) s := ⟨hKc, fun k q h => by
    match k, h with
    | 0, h => cases h; exact ⟨hI1, hI2⟩
    | 1, h => cases h; exact ⟨hZ1, hZ2⟩
    | k + 2, h => simp at h⟩
  have hN : Nst s := fun w hw => va_Nw.of (nest_tab w hw) (hts0 w (nest_in w hw))
  have C : Cx p s m #[Value.ref b] meth c (dC, dI) (TY cI cZ) cL_law ret 4 wsL_law RL := ⟨hx, hb, hr, hml, hown, hts, hlk, hK, hN⟩
  have hw : Wd (dC, dI) (A0 s) s [] s.heap [] := ⟨fun k q h => by simp at h, ⟨fun i j p q h => by simp at h, fun k q h => by simp at h⟩, va_S.rf⟩
  have hl := lv_entry ([.ref b]) (n := 4) (Nat.le_of_ble_eq_true rfl)
  rw [lg_entry_eq]
  generalize (lg_sl ([.ref b]) ++ List.replicate (4 - (lg_sl ([.ref b])).length) Slot.unset).toArray = ls at hl ⊢
  have hl : lv_has ls 4 [(0, .ref b)] := hl
  refine va_new (ci := 10) (fs := [.null, .null, .null, .null, .null, .null, .null, .null, .null, .null, .null, .int (zI 0), .int (zI 0)]) (C := RX10) (T := TX10) (N := 13) hx hb hts inlX10 tyX10 tyX10_ok hown (hts (.classLink RL 7 RX10) (List.mem_of_getElem? (i := 0) rfl)) (hts (.instantiable RX10 13) (List.mem_of_getElem? (i := 1) rfl)) (hts (.initialized RX10) (List.mem_of_getElem? (i := 2) rfl)) hK hw.1 hw.2.1 hw.2.2 hA rfl (fun j hj => by rcases (show j = 0 ∨ j = 1 ∨ j = 2 ∨ j = 3 ∨ j = 4 ∨ j = 5 ∨ j = 6 ∨ j = 7 ∨ j = 8 ∨ j = 9 ∨ j = 10 ∨ j = 11 ∨ j = 12 by omega) with rfl | rfl | rfl | rfl | rfl | rfl | rfl | rfl | rfl | rfl | rfl | rfl | rfl <;> rfl) (by decide) (by decide) dL_law_0 (fun z1 H hP hD hS => ?_)
  have hw : Wd (dC, dI) (A0 s) s (([] : va_W) ++ [(z1, .inr (10, [.null, .null, .null, .null, .null, .null, .null, .null, .null, .null, .null, .int (zI 0), .int (zI 0)]))]) H _ := ⟨hP, hD, hS⟩
  refine W.widen (k := 1) (n := 13) (by decide) (by decide) ?_
  refine lv_dup hx hb dL_law_3 rfl ?_
  refine gN (As := []) (rest := [.ref z1]) C hA hw [0] [] rfl rfl rfl (by decide) (by decide) (by decide) (fun sz => tX10_init) (cwI 0 hts gL_law_X10_init rfl rfl rfl (hts (.initialized RX10) (List.mem_of_getElem? (i := 2) rfl)) (hts (.methodLink RL 9 yX10_init) (List.mem_of_getElem? (i := 6) rfl)) (hts (.instanceMethod yX10_init) (List.mem_of_getElem? (i := 7) rfl)) rfl (by decide +kernel) ⟨Nat.le_of_ble_eq_true rfl, Nat.le_of_ble_eq_true rfl⟩) rfl hl.1 rfl (Nat.le_of_ble_eq_true rfl) dL_law_4 ⟨by decide, by decide⟩ (fun q H locs eq hw => ?_)
  have hw : Wd (dC, dI) (A0 s) s (wE q cI cZ iE) H locs := hw
  refine W.widen (k := 38) (n := 900) (by decide) (by decide) ?_
  refine lv_astore_n (lv' := [(1, .ref z1), (0, .ref b)]) hx hb dL_law_7 rfl hl (by decide) rfl (fun ls hl => ?_)
  refine va_new (ci := 11) (fs := [.int (zI 0), .int (zI 0), .int (zI 0), .null, .null, .int (zI 0), .null, .null, .null, .null, .int (zI 0), .null, .int (zI 0), .int (zI 0), .int (zI 0), .int (zI 0), .int (zI 0), .null, .int (zI 0), .null, .null, .int (zI 0), .null, .null, .int (zI 0), .null, .null, .null, .null, .null, .null, .int (zI 0), .null, .null, .null, .int (zI 0), .null, .null, .null, .null]) (C := RX11) (T := TX11) (N := 40) hx hb hts inlX11 tyX11 tyX11_ok hown (hts (.classLink RL 10 RX11) (List.mem_of_getElem? (i := 3) rfl)) (hts (.instantiable RX11 40) (List.mem_of_getElem? (i := 4) rfl)) (hts (.initialized RX11) (List.mem_of_getElem? (i := 5) rfl)) hK hw.1 hw.2.1 hw.2.2 hA rfl (fun j hj => by rcases (show j = 0 ∨ j = 1 ∨ j = 2 ∨ j = 3 ∨ j = 4 ∨ j = 5 ∨ j = 6 ∨ j = 7 ∨ j = 8 ∨ j = 9 ∨ j = 10 ∨ j = 11 ∨ j = 12 ∨ j = 13 ∨ j = 14 ∨ j = 15 ∨ j = 16 ∨ j = 17 ∨ j = 18 ∨ j = 19 ∨ j = 20 ∨ j = 21 ∨ j = 22 ∨ j = 23 ∨ j = 24 ∨ j = 25 ∨ j = 26 ∨ j = 27 ∨ j = 28 ∨ j = 29 ∨ j = 30 ∨ j = 31 ∨ j = 32 ∨ j = 33 ∨ j = 34 ∨ j = 35 ∨ j = 36 ∨ j = 37 ∨ j = 38 ∨ j = 39 by omega) with rfl | rfl | rfl | rfl | rfl | rfl | rfl | rfl | rfl | rfl | rfl | rfl | rfl | rfl | rfl | rfl | rfl | rfl | rfl | rfl | rfl | rfl | rfl | rfl | rfl | rfl | rfl | rfl | rfl | rfl | rfl | rfl | rfl | rfl | rfl | rfl | rfl | rfl | rfl | rfl <;> rfl) (by decide) (by decide) dL_law_8 (fun z2 H hP hD hS => ?_)
  have hw : Wd (dC, dI) (A0 s) s (wE q cI cZ iE ++ [(z2, .inr (11, [.int (zI 0), .int (zI 0), .int (zI 0), .null, .null, .int (zI 0), .null, .null, .null, .null, .int (zI 0), .null, .int (zI 0), .int (zI 0), .int (zI 0), .int (zI 0), .int (zI 0), .null, .int (zI 0), .null, .null, .int (zI 0), .null, .null, .int (zI 0), .null, .null, .null, .null, .null, .null, .int (zI 0), .null, .null, .null, .int (zI 0), .null, .null, .null, .null]))]) H _ := ⟨hP, hD, hS⟩
  refine W.widen (k := 39) (n := 940) (by decide) (by decide) ?_
  refine lv_dup hx hb dL_law_11 rfl ?_
  refine gN (As := []) (rest := [.ref z2]) C hA hw [38] nmE rfl rfl rfl (by decide) (by decide) (by decide) (fun sz => tX11_init) (cwI 0 hts gL_law_X11_init rfl rfl rfl (hts (.initialized RX11) (List.mem_of_getElem? (i := 5) rfl)) (hts (.methodLink RL 12 yX11_init) (List.mem_of_getElem? (i := 143) rfl)) (hts (.instanceMethod yX11_init) (List.mem_of_getElem? (i := 144) rfl)) rfl (by decide +kernel) ⟨Nat.le_of_ble_eq_true rfl, Nat.le_of_ble_eq_true rfl⟩) rfl hl.1 rfl (Nat.le_of_ble_eq_true rfl) dL_law_12 ⟨by decide, by decide⟩ (fun q' H locs eq' hw => ?_)
  have hw : Wd (dC, dI) (A0 s) s (wE q cI cZ iE ++ wM q' cI cZ iM) H locs := hw
  refine W.widen (k := 600000) (n := 7302250) (by decide) (by decide) ?_
  refine lv_astore_n (lv' := [(2, .ref z2), (1, .ref z1), (0, .ref b)]) hx hb dL_law_15 rfl hl (by decide) rfl (fun ls hl => ?_)
  refine lv_iconst (v := zI 0) hx hb dL_law_16 rfl ?_
  refine lv_istore_n (lv' := [(3, .int (zI 0)), (2, .ref z2), (1, .ref z1), (0, .ref b)]) hx hb dL_law_17 rfl hl (by decide) rfl (fun ls hl => ?_)
  rw [← eq, ← eq'] at hl
  exact law_loop C hX hbl hL (L + 1) 0 (Nat.zero_le L) (by omega) iE iM H locs ls rel_init hw (lv_sub hl [3, 2, 1, 0] rfl)
