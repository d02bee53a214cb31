/-! calls of the law: two worlds, one of them at work -/
def A0 (s : State) : Nat → Prop := fun q => s.heap.size ≤ q
def nmE : List Nat := [0, 1, 2, 3, 4, 5, 6, 7, 8, 9, 10, 11, 12, 13, 14, 15, 16, 17, 18, 19, 20, 21, 22, 23, 24, 25, 26, 27, 28, 29, 30, 31, 32, 33, 34, 35, 36, 37]
def nmM : List Nat := [38, 39, 40, 41, 42, 43, 44, 45, 46, 47, 48, 49, 50, 51, 52, 53, 54, 55, 56, 57, 58, 59, 60, 61, 62, 63]
def nmE' : List Nat := [26, 27, 28, 29, 30, 31, 32, 33, 34, 35, 36, 37, 38, 39, 40, 41, 42, 43, 44, 45, 46, 47, 48, 49, 50, 51, 52, 53, 54, 55, 56, 57, 58, 59, 60, 61, 62, 63]
def nmM' : List Nat := [0, 1, 2, 3, 4, 5, 6, 7, 8, 9, 10, 11, 12, 13, 14, 15, 16, 17, 18, 19, 20, 21, 22, 23, 24, 25]
section
variable {p : Program} {l : Launch} {e : Env} {s : State} {m : MethodId} {args : Array Value} {below : List Frame} {meth : Method} {c : Code} {D : va_G} {tys : List (ClassId × FieldType)} {cc : ByteArray} {ret : Option FieldType} {nL : Nat} {ws : List Cond} {own : String} {X Y X' : va_W} {r : Int32} {H : Heap} {locs : List Loc} {Q : State → Prop} {R : Room} {cells slots : Nat} {A : Nat → Prop}
variable {y : MethodName} {ys : List Cond} {rm : Room} {bytes : ByteArray} {maxL n index pc : Nat} {rt : Option FieldType} {K : String} {b : Nat} {As rest stk : List Value} {ls : Array Slot} {fs : List Value} {T : u_T} {N : Nat}
theorem gJ (C : Cx p s m args meth c D tys cc ret nL ws own) (hA : ∀ q, s.heap.size ≤ q → A q) (hw : Wd D A s (X ++ Y) H locs) (isC isR : List Nat) (hC0 : isC.filterMap (fun i => (X ++ Y)[i]?) = X) (hC : isC.map (fun i => (X ++ Y)[i]?) = X.map some) (hR : isR.map (fun i => (X ++ Y)[i]?) = Y.map some) (hnC : va_nd isC = true) (hnR : va_nd isR = true) (hdis : ∀ i ∈ isR, i ∉ isC)
    (hM : ∀ A, Met l y ys rm (va_Pc (.ref b :: As) (CX D tys A X)) (QI D tys A X' r) 0 0 A) (cw : CallW R s args own K index y bytes maxL rt ys rm 0 0 n) (ci i : Nat) (hc : vwCl[ci]? = some (K, T, N)) (he : X[i]? = some (b, .inr (ci, fs)))
    (hn : As.length = n) (hls : ls.size = nL) (hstk : stk = As.reverse ++ .ref b :: rest) (hroom : (rest.map fun v => v.category).sum ≤ 8) (hdg : decode cc pc = .ok (.invokevirtual index, 3)) (hf : cells ≤ R.cells ∧ slots ≤ R.slots)
    (kk : ∀ (H1 : Heap) (locs1 : List Loc), Wd D A s (Y ++ X') H1 locs1 → W p l e R s m args below meth c H1 locs1 cells slots Q (F0 m (pc + 3) ls (.int r :: rest))) : W p l e R s m args below meth c H locs cells slots Q (F0 m pc ls stk) := by
  subst hstk
  obtain ⟨hx, hb, hr, hml, hown, hts, hlk, hK, hN⟩ := C
  obtain ⟨hP, hD, hS⟩ := hw
  have hPc : va_P D vwCl X H := hP.sub isC hC0
  have hDc := (hD.sub isC hnC hC).self (sz := H.size)
  have hFc := va_free (wc := X) hD hS hA isC hC
  refine va_calli (va_runV (As := As) (rest := rest) ⟨hx, hb, hml, hown, hts⟩ (hM (va_A X H.size)) cw ⟨CX.blind, va_recv hK hPc hc he, fun U hU hW => ⟨rfl, by rw [hU]; exact hPc, va_K.moved hW.alike hK, hDc, hN.warm hW⟩⟩ rfl hn hls rfl (lv_room hroom) hdg hf) hS (fun q _ h => hFc q h) hFc (fun r1 u t H1 locs1 ht hvm hp hB hz hk hS => ?_)
  subst hp
  obtain ⟨hP1, hK1, hD1, -⟩ := hB
  rw [ht] at hP1
  obtain ⟨hP2, hD2⟩ := va_join (wc := X) (wr := Y) (w1 := X') hP hD isC isR hC hR hnR hdis hk hFc hP1 hD1
  exact kk H1 locs1 ⟨hP2, hD2, hS⟩
end
section
variable {q q' : Nat → Nat} {cI cZ : ClassId} {σ μ : St}
theorem ixE0 : nmE.filterMap (fun i => (wE q cI cZ σ ++ wM q' cI cZ μ)[i]?) = wE q cI cZ σ := rfl
theorem ixE1 : nmE.map (fun i => (wE q cI cZ σ ++ wM q' cI cZ μ)[i]?) = (wE q cI cZ σ).map some := rfl
theorem ixE2 : nmM.map (fun i => (wE q cI cZ σ ++ wM q' cI cZ μ)[i]?) = (wM q' cI cZ μ).map some := rfl
theorem ixM0 : nmM'.filterMap (fun i => (wM q' cI cZ μ ++ wE q cI cZ σ)[i]?) = wM q' cI cZ μ := rfl
theorem ixM1 : nmM'.map (fun i => (wM q' cI cZ μ ++ wE q cI cZ σ)[i]?) = (wM q' cI cZ μ).map some := rfl
theorem ixM2 : nmE'.map (fun i => (wM q' cI cZ μ ++ wE q cI cZ σ)[i]?) = (wE q cI cZ σ).map some := rfl
theorem ndE : va_nd nmE = true := by decide +kernel
theorem ndM : va_nd nmM = true := by decide +kernel
theorem ndE' : va_nd nmE' = true := by decide +kernel
theorem ndM' : va_nd nmM' = true := by decide +kernel
theorem dsE : ∀ i ∈ nmM, i ∉ nmE := by decide +kernel
theorem dsM : ∀ i ∈ nmE', i ∉ nmM' := by decide +kernel
end
/-- the script's number at i + k -/
theorem argL {p : Program} {l : Launch} {e : Env} {s : State} {m : MethodId} {args : Array Value} {below : List Frame} {meth : Method} {c : Code} {R : Room} {cells slots : Nat} {Q : State → Prop} {cc : ByteArray} {pc b L i k u1 u2 : Nat} {xs : Nat → Int32} {H : Heap} {locs : List Loc} {ls : Array Slot} {rest : List Value} (hx : p.tables.exec = Jvm.exec) (hb : c.code = cc) (hX : va_X b L xs s s.heap) (hbl : b < s.heap.size) (hL : L ≤ 192) (hS : va_S (A0 s) s.heap H locs) (hl : lv_has ls 4 [(0, .ref b), (1, .ref u1), (2, .ref u2), (3, .int (zI (i : Int)))]) (hik : i + k < L) (hk : k ≤ 2)
    (d0 : decode cc pc = .ok (.aload_n 0, 1)) (d1 : decode cc (pc + 1) = .ok (.iload_n 3, 1)) (d2 : decode cc (pc + 2) = .ok (.iconst (k : Int), 1)) (d3 : decode cc (pc + 3) = .ok (.iadd, 1)) (d4 : decode cc (pc + 4) = .ok (.iaload, 1))
    (kk : W p l e R s m args below meth c H locs cells slots Q (F0 m (pc + 5) ls (.int (zI (xs (i + k)).toInt) :: rest))) : W p l e R s m args below meth c H locs cells slots Q (F0 m pc ls rest) := by
  refine lv_aload_n hx hb d0 rfl (lv_at hl 0 rfl) ?_
  refine lv_iload_n hx hb d1 rfl (lv_at hl 3 rfl) ?_
  refine lv_iconst (v := zI (k : Int)) hx hb d2 rfl ?_
  refine zv_iadd hx hb d3 ?_
  have e : (i : Int) + (k : Int) = ((i + k : Nat) : Int) := by omega
  rw [e, zI_nat]
  refine va_sld hx hb hX hbl (Nat.not_le.mpr hbl) hS (vp_in_nI hik (by omega)) d4 ?_
  have e2 : (nI (i + k)).toNatClampNeg = i + k := by
    rw [← zI_nat, zcl (by omega) (by omega)]
    exact Int.toNat_natCast _
  rw [e2]
  rw [zI_of] at kk
  exact kk
