/-! constructors: new cells behind those that are there -/
def CXn (D : va_G) (tys : List (ClassId × FieldType)) (sz : Nat) (w : va_W) (U : State) : Prop := U.heap.size = sz ∧ CX D tys (va_A w sz) w U
theorem CXn.blind {D : va_G} {tys : List (ClassId × FieldType)} {sz : Nat} {w : va_W} {av : List Value} : FrameBlind (va_Pc av (CXn D tys sz w)) := by
  intro a U g mk h
  obtain ⟨h0, hz, hP, hK, hD, hN⟩ := h
  exact ⟨h0, hz, hP, va_K.moved (u := U) (U := U.calling g mk a) (Vm.Alike.refl U.vm) hK, hD, Nst.same (s := U) (U := U.calling g mk a) rfl hN⟩
theorem opnN {l : Launch} {y : MethodName} {ws ws' : List Cond} {rm : Room} {cc : ByteArray} {maxL : Nat} {av : List Value} {D : va_G} {tys : List (ClassId × FieldType)} {sz mc ms : Nat} {A : Nat → Prop} {w : va_W} {Qc : Array Value → State → Outcome → State → Prop} (hy1 : y.name = "<init>")
    (hy : plainName y.cls = true) (hw : ws = .code y cc maxL none :: ws') (hlen : (lg_sl av).length ≤ maxL)
    (body : ∀ (p : Program) (e : Env) (s : State) (m : MethodId) (below : List Frame) (meth : Method) (c : Code), Cx p s m av.toArray meth c D tys cc none maxL ws y.cls → meth.name = "<init>" → s.heap.size = sz → ∀ ls : Array Slot, Wd D (va_A w sz) s w s.heap [] → lv_has ls maxL (lv_args 0 av) → W p l e rm s m av.toArray below meth c s.heap [] 0 0 (MQ below Qc av.toArray s mc ms A) (F0 m 0 ls [])) :
    Met l y ws rm (va_Pc av (CXn D tys sz w)) Qc mc ms A := by
  refine Met.ofW (cc := cc) (maxL := maxL) (ret := none) hy hw ?_
  intro p e s m args below meth c s₁ B hml hv
  obtain ⟨rfl, hz, hP, hK, hD, hN⟩ := hv
  rw [lg_entry_eq]
  exact body p e s m below meth c ⟨B.exec, B.bytes, B.returns, hml, findClass_of_methodNamed B.named, atoms_spec (ws := ws) B.pre, B.notSynchronized, hK, hN⟩ ((name_of_methodNamed B.named B.method).1.trans hy1) hz _ ⟨hP, hD, va_S.rf⟩ (lv_entry av hlen)
abbrev QN {S : Type} (D : va_G) (tys : List (ClassId × FieldType)) (sz : Nat) (w : va_W) (post : S → Prop) (mk : S → va_W) : Array Value → State → Outcome → State → Prop := va_Qv post (fun u t => CX D tys (va_A w sz) (mk u) t) (va_A w sz)
section
variable {p : Program} {l : Launch} {e : Env} {s : State} {m : MethodId} {args : Array Value} {below : List Frame} {meth : Method} {c : Code} {D : va_G} {cI cZ : ClassId} {cc : ByteArray} {ret : Option FieldType} {nL : Nat} {ws : List Cond} {own : String} {Y w : va_W} {H : Heap} {locs : List Loc} {Q : State → Prop} {R : Room} {cells slots : Nat} {A : Nat → Prop}
variable {y : MethodName} {ys : List Cond} {rm : Room} {bytes : ByteArray} {maxL n index pc mc ms : Nat} {b : Nat} {As rest stk : List Value} {ls : Array Slot} {x : Nat × va_E} {S : Type} {post : S → Prop} {mk : S → va_W}
theorem nwI {N : Nat} (C : Cx p s m args meth c D (TY cI cZ) cc ret nL ws own) (hA : ∀ q, s.heap.size ≤ q → A q) (hw : Wd D A s w H locs) (harr : (Cond.arrayClass .int).before args s = true) (hN : N ≤ 1000) (hc : cells + 1 ≤ R.cells) (hs : slots + N ≤ R.slots) (hdg : decode cc pc = .ok (.newarray .int, 2))
    (kk : ∀ (q : Nat) (H1 : Heap), Wd D A s (w ++ [(q, .inl (cI, N, .inl (fun _ => zI 0)))]) H1 locs → W p l e R s m args below meth c H1 locs (cells + 1) (slots + N) Q (F0 m (pc + 2) ls (.ref q :: rest))) : W p l e R s m args below meth c H locs cells slots Q (F0 m pc ls (.int (zI (N : Int)) :: rest)) := by
  obtain ⟨hx, hb, hr, hml, hown, hts, hlk, hK, hN0⟩ := C
  refine va_newa (atype := .int) (ty := .int) (N' := N) (a0 := (N, .inl (fun _ => zI 0))) hx hb harr rfl hK hw.1 hw.2.1 hw.2.2 hA (fun cA => rfl) ?_ ?_ ?_ hc hs hdg (fun q cA H1 hK1 hP1 hD1 hS1 => ?_)
  · rw [zI_0, zI_lt (by omega) rg0]; omega
  · rw [zcl (by omega) (by omega)]; exact Int.toNat_natCast _
  · show N * 4 ≤ 536870912
    omega
  · have e1 := va_nm_int (hK1.2 2 (cA, .int) rfl).2
    have e2 := va_nm_int (hK.2 0 (cI, .int) rfl).2
    obtain rfl : cA = cI := Option.some.inj (e1.symm.trans e2)
    exact kk q H1 ⟨hP1, hD1, hS1⟩
theorem nwZ {N : Nat} (C : Cx p s m args meth c D (TY cI cZ) cc ret nL ws own) (hA : ∀ q, s.heap.size ≤ q → A q) (hw : Wd D A s w H locs) (harr : (Cond.arrayClass .boolean).before args s = true) (hN : N ≤ 1000) (hc : cells + 1 ≤ R.cells) (hs : slots + N ≤ R.slots) (hdg : decode cc pc = .ok (.newarray .boolean, 2))
    (kk : ∀ (q : Nat) (H1 : Heap), Wd D A s (w ++ [(q, .inl (cZ, N, .inl (fun _ => zI 0)))]) H1 locs → W p l e R s m args below meth c H1 locs (cells + 1) (slots + N) Q (F0 m (pc + 2) ls (.ref q :: rest))) : W p l e R s m args below meth c H locs cells slots Q (F0 m pc ls (.int (zI (N : Int)) :: rest)) := by
  obtain ⟨hx, hb, hr, hml, hown, hts, hlk, hK, hN0⟩ := C
  refine va_newa (atype := .boolean) (ty := .boolean) (N' := N) (a0 := (N, .inl (fun _ => zI 0))) hx hb harr rfl hK hw.1 hw.2.1 hw.2.2 hA (fun cA => rfl) ?_ ?_ ?_ hc hs hdg (fun q cA H1 hK1 hP1 hD1 hS1 => ?_)
  · rw [zI_0, zI_lt (by omega) rg0]; omega
  · rw [zcl (by omega) (by omega)]; exact Int.toNat_natCast _
  · show N * 1 ≤ 536870912
    omega
  · have e1 := va_nm_boolean (hK1.2 2 (cA, .boolean) rfl).2
    have e2 := va_nm_boolean (hK.2 1 (cZ, .boolean) rfl).2
    obtain rfl : cA = cZ := Option.some.inj (e1.symm.trans e2)
    exact kk q H1 ⟨hP1, hD1, hS1⟩
/-- a constructor's call on the newest cell -/
theorem gN {tys : List (ClassId × FieldType)} (C : Cx p s m args meth c D tys cc ret nL ws own) (hA : ∀ q, s.heap.size ≤ q → A q) (hw : Wd D A s (Y ++ [x]) H locs) (isC isR : List Nat) (hC0 : isC.filterMap (fun i => (Y ++ [x])[i]?) = [x]) (hC : isC.map (fun i => (Y ++ [x])[i]?) = [x].map some) (hR : isR.map (fun i => (Y ++ [x])[i]?) = Y.map some) (hnC : va_nd isC = true) (hnR : va_nd isR = true) (hdis : ∀ i ∈ isR, i ∉ isC)
    (hM : ∀ sz, Met l y ys rm (va_Pc (.ref b :: As) (CXn D tys sz [x])) (QN D tys sz [x] post mk) mc ms (va_A [x] sz)) (cw : CallB R s args own index y bytes maxL none ys rm mc ms n ∧ y.name = "<init>" ∧ (Cond.instanceMethod y).before args s = true)
    (hn : As.length = n) (hls : ls.size = nL) (hstk : stk = As.reverse ++ .ref b :: rest) (hroom : (rest.map fun v => v.category).sum ≤ 8) (hdg : decode cc pc = .ok (.invokespecial index, 3)) (hf : cells + mc ≤ R.cells ∧ slots + ms ≤ R.slots)
    (kk : ∀ (u : S) (H1 : Heap) (locs1 : List Loc), post u → Wd D A s (Y ++ mk u) H1 locs1 → W p l e R s m args below meth c H1 locs1 (cells + mc) (slots + ms) Q (F0 m (pc + 3) ls rest)) : W p l e R s m args below meth c H locs cells slots Q (F0 m pc ls stk) := by
  subst hstk
  obtain ⟨hx, hb, hr, hml, hown, hts, hlk, hK, hN⟩ := C
  obtain ⟨hP, hD, hS⟩ := hw
  have hPc : va_P D vwCl [x] H := hP.sub isC hC0
  have hDc := (hD.sub isC hnC hC).self (sz := H.size)
  have hFc := va_free (wc := [x]) hD hS hA isC hC
  refine va_callv (va_runI (As := As) (rest := rest) ⟨hx, hb, hml, hown, hts⟩ (hM H.size) cw ⟨CXn.blind, fun U hU hW => ⟨rfl, by rw [hU], by rw [hU]; exact hPc, va_K.moved hW.alike hK, hDc, hN.warm hW⟩⟩ rfl hn hls rfl (lv_room hroom) hdg hf) hS (fun q _ h => hFc q h) hFc (fun u t H1 locs1 ht hvm hp hB hz hk hS => ?_)
  obtain ⟨hP1, hK1, hD1, -⟩ := hB
  rw [ht] at hP1
  obtain ⟨hP2, hD2⟩ := va_join (wc := [x]) (wr := Y) (w1 := mk u) hP hD isC isR hC hR hnR hdis hk hFc hP1 hD1
  exact kk u H1 locs1 hp ⟨hP2, hD2, hS⟩
end
