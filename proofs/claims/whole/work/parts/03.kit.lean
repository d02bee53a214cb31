/-! the rows of my own kit: a state is numbers and rows; a method is a function of it that may fail; the walk follows the function -/
abbrev St : Type := (Nat → Int32) × (Nat → Nat → Int32)
def sI (σ : St) (k : Nat) (v : Int32) : St := (upd σ.1 k v, σ.2)
def sA (σ : St) (k : Nat) (g : Nat → Int32) : St := (σ.1, va_up σ.2 k g)
abbrev inR (i : Int32) (n : Nat) : Prop := ¬ (i < 0 ∨ n ≤ i.toNatClampNeg)
def nm {α β : Type} (v : α) (f : α → Option β) : Option β := f v
def FU : Nat := 100000
theorem nm_s {α β : Type} {v : α} {f : α → Option β} {r : β} (h : nm v f = some r) : ∃ z, z = v ∧ f z = some r := ⟨v, rfl, h⟩
theorem gd_s {β : Type} {c : Prop} [Decidable c] {x : Option β} {r : β} (h : (if c then x else none) = some r) : c ∧ x = some r := by
  by_cases hc : c
  · rw [if_pos hc] at h; exact ⟨hc, h⟩
  · rw [if_neg hc] at h; cases h
theorem bd_s {α β : Type} {x : Option α} {f : α → Option β} {r : β} (h : x.bind f = some r) : ∃ a, x = some a ∧ f a = some r := by
  cases x with
  | none => cases h
  | some a => exact ⟨a, rfl, h⟩
/-- what nest mates link -/
def nestL : List Cond := [.fieldLinkNest "EggThrones$Boiling" 31 "EggThrones$Table" "places" "I" "EggThrones", .fieldLinkNest "EggThrones" 130 "EggThrones$Table" "places" "I" "EggThrones", .fieldLinkNest "EggThrones$Morning" 82 "EggThrones$Table" "places" "I" "EggThrones", .fieldLinkNest "EggThrones$Morning" 41 "EggThrones$Table" "toast" "I" "EggThrones", .fieldLinkNest "EggThrones" 136 "EggThrones$Table" "limit" "I" "EggThrones", .fieldLinkNest "EggThrones$Morning" 96 "EggThrones$Table" "limit" "I" "EggThrones", .fieldLinkNest "EggThrones" 127 "EggThrones$Table" "eggs" "I" "EggThrones", .fieldLinkNest "EggThrones$Text" 69 "EggThrones$Table" "eggs" "I" "EggThrones", .fieldLinkNest "EggThrones" 139 "EggThrones$Table" "eaters" "I" "EggThrones", .fieldLinkNest "EggThrones$Text" 75 "EggThrones$Table" "eaters" "I" "EggThrones", .fieldLinkNest "EggThrones" 145 "EggThrones$Morning" "king" "I" "EggThrones", .fieldLinkNest "EggThrones" 148 "EggThrones$Morning" "left" "I" "EggThrones", .fieldLinkNest "EggThrones$Succession" 39 "EggThrones$Morning" "soldiers" "I" "EggThrones", .fieldLinkNest "EggThrones" 133 "EggThrones$Morning" "soldiers" "I" "EggThrones", .fieldLinkNest "EggThrones" 142 "EggThrones$Morning" "minutes" "I" "EggThrones", .fieldLinkNest "EggThrones" 151 "EggThrones$Morning" "reigned" "I" "EggThrones", .fieldLinkNest "EggThrones" 154 "EggThrones$Morning" "scraped" "I" "EggThrones", .fieldLinkNest "EggThrones" 171 "EggThrones$Past" "count" "I" "EggThrones", .fieldLinkNest "EggThrones" 167 "EggThrones$Clues" "count" "I" "EggThrones", .fieldLinkNest "EggThrones" 170 "EggThrones$Book" "count" "I" "EggThrones", .fieldLinkNest "EggThrones" 278 "EggThrones$Succession" "kings" "I" "EggThrones", .fieldLinkNest "EggThrones" 281 "EggThrones$Succession" "minutes" "I" "EggThrones", .fieldLinkNest "EggThrones" 282 "EggThrones$Succession" "set" "I" "EggThrones", .methodLinkNest "EggThrones$Text" 89 ⟨"EggThrones", "isWithin", "(III)Z"⟩ "EggThrones", .methodLinkNest "EggThrones$Sharing" 40 ⟨"EggThrones", "isWithin", "(III)Z"⟩ "EggThrones"]
def Nst (U : State) : Prop := ∀ w ∈ nestL, va_Nw w U
theorem nest_kind : ∀ w ∈ nestL, (∃ a i b n d h, w = Cond.fieldLinkNest a i b n d h) ∨ (∃ a i x h, w = Cond.methodLinkNest a i x h) := by
  unfold nestL
  repeat (first | exact fun _ h => absurd h List.not_mem_nil | refine List.forall_mem_cons.mpr ⟨by first | exact Or.inl ⟨_, _, _, _, _, _, rfl⟩ | exact Or.inr ⟨_, _, _, _, rfl⟩, ?_⟩)
theorem Nst.warm {s U : State} (hW : s.WarmedH U.vm) (h : Nst s) : Nst U := by
  intro w hw
  rcases nest_kind w hw with ⟨a, i, b, n, d, h', rfl⟩ | ⟨a, i, x, h', rfl⟩
  · exact va_Nw.warmF hW (h _ hw)
  · exact va_Nw.warmM hW (h _ hw)
theorem Nst.same {s U : State} (e : s.vm = U.vm) (h : Nst s) : Nst U := by
  intro w hw
  rcases nest_kind w hw with ⟨a, i, b, n, d, h', rfl⟩ | ⟨a, i, x, h', rfl⟩
  · exact va_Nw.same rfl e (h _ hw)
  · exact va_Nw.same rfl e (h _ hw)
/-- a method's start and end: the cells, the tables, the nest -/
def CX (D : va_G) (tys : List (ClassId × FieldType)) (A : Nat → Prop) (w : va_W) (U : State) : Prop := va_P D vwCl w U.heap ∧ va_K D vwCl tys U ∧ va_D A w ∧ Nst U
theorem CX.blind {D : va_G} {tys : List (ClassId × FieldType)} {A : Nat → Prop} {w : va_W} {av : List Value} : FrameBlind (va_Pc av (CX D tys A w)) := by
  intro a U g mk h
  obtain ⟨h0, hP, hK, hD, hN⟩ := h
  exact ⟨h0, hP, va_K.moved (u := U) (U := U.calling g mk a) (Vm.Alike.refl U.vm) hK, hD, Nst.same (s := U) (U := U.calling g mk a) rfl hN⟩
/-- what a walk stands on -/
def Cx (p : Program) (s : State) (m : MethodId) (args : Array Value) (meth : Method) (c : Code) (D : va_G) (tys : List (ClassId × FieldType)) (cc : ByteArray) (ret : Option FieldType) (nL : Nat) (ws : List Cond) (own : String) : Prop :=
  p.tables.exec = Jvm.exec ∧ c.code = cc ∧ meth.sig.returnType = ret ∧ c.maxLocals = nL ∧ s.vm.findClass own = some m.cls ∧ (∀ w ∈ ws, w.before args s = true) ∧ meth.locks = false ∧ va_K D vwCl tys s ∧ Nst s
def Wd (D : va_G) (A : Nat → Prop) (s : State) (w : va_W) (H : Heap) (locs : List Loc) : Prop := va_P D vwCl w H ∧ va_D A w ∧ va_S A s.heap H locs
theorem opn {l : Launch} {y : MethodName} {ws ws' : List Cond} {rm : Room} {cc : ByteArray} {maxL : Nat} {ret : Option FieldType} {av : List Value} {D : va_G} {tys : List (ClassId × FieldType)} {A : Nat → Prop} {w : va_W} {Qc : Array Value → State → Outcome → State → Prop}
    (hy : plainName y.cls = true) (hw : ws = .code y cc maxL ret :: ws') (hlen : (lg_sl av).length ≤ maxL)
    (body : ∀ (p : Program) (e : Env) (s : State) (m : MethodId) (below : List Frame) (meth : Method) (c : Code), Cx p s m av.toArray meth c D tys cc ret maxL ws y.cls → ∀ ls : Array Slot, Wd D A s w s.heap [] → lv_has ls maxL (lv_args 0 av) → W p l e rm s m av.toArray below meth c s.heap [] 0 0 (MQ below Qc av.toArray s 0 0 A) (F0 m 0 ls [])) :
    Met l y ws rm (va_Pc av (CX D tys A w)) Qc 0 0 A := by
  refine Met.ofW (cc := cc) (maxL := maxL) (ret := ret) hy hw ?_
  intro p e s m args below meth c s₁ B hml hv
  obtain ⟨rfl, hP, hK, hD, hN⟩ := hv
  rw [lg_entry_eq]
  exact body p e s m below meth c ⟨B.exec, B.bytes, B.returns, hml, findClass_of_methodNamed B.named, atoms_spec (ws := ws) B.pre, B.notSynchronized, hK, hN⟩ _ ⟨hP, hD, va_S.rf⟩ (lv_entry av hlen)
abbrev QI (D : va_G) (tys : List (ClassId × FieldType)) (A : Nat → Prop) (w : va_W) (r : Int32) : Array Value → State → Outcome → State → Prop := va_Qi (fun (r' : Int32) (_ : Unit) => r' = r) (fun _ t => CX D tys A w t) A
abbrev QV (D : va_G) (tys : List (ClassId × FieldType)) (A : Nat → Prop) (w : va_W) : Array Value → State → Outcome → State → Prop := va_Qv (fun (_ : Unit) => True) (fun _ t => CX D tys A w t) A
def RtI (p : Program) (l : Launch) (e : Env) (R : Room) (s : State) (m : MethodId) (args : Array Value) (below : List Frame) (meth : Method) (c : Code) (D : va_G) (A : Nat → Prop) (cc : ByteArray) (Q : State → Prop) (w : va_W) (r : Int32) : Prop :=
  ∀ (H : Heap) (locs : List Loc) (ls : Array Slot) (pc : Nat), decode cc pc = .ok (.ireturn, 1) → Wd D A s w H locs → W p l e R s m args below meth c H locs 0 0 Q (F0 m pc ls [.int r])
def RtZ (p : Program) (l : Launch) (e : Env) (R : Room) (s : State) (m : MethodId) (args : Array Value) (below : List Frame) (meth : Method) (c : Code) (D : va_G) (A : Nat → Prop) (cc : ByteArray) (Q : State → Prop) (w : va_W) (r : Int32) : Prop :=
  ∀ (H : Heap) (locs : List Loc) (ls : Array Slot) (pc : Nat), decode cc pc = .ok (.ireturn, 1) → narrow .boolean (.int r) = .int r → Wd D A s w H locs → W p l e R s m args below meth c H locs 0 0 Q (F0 m pc ls [.int r])
def RtV (p : Program) (l : Launch) (e : Env) (R : Room) (s : State) (m : MethodId) (args : Array Value) (below : List Frame) (meth : Method) (c : Code) (D : va_G) (A : Nat → Prop) (cc : ByteArray) (Q : State → Prop) (w : va_W) : Prop :=
  ∀ (H : Heap) (locs : List Loc) (ls : Array Slot) (pc : Nat), decode cc pc = .ok (.return_, 1) → Wd D A s w H locs → W p l e R s m args below meth c H locs 0 0 Q (F0 m pc ls [])
section RT
variable {p : Program} {l : Launch} {e : Env} {R : Room} {s : State} {m : MethodId} {args : Array Value} {below : List Frame} {meth : Method} {c : Code} {D : va_G} {tys : List (ClassId × FieldType)} {A : Nat → Prop} {cc : ByteArray} {ret : Option FieldType} {nL : Nat} {ws : List Cond} {own : String} {w w' : va_W} {r : Int32} {H : Heap} {locs : List Loc} {Q : State → Prop}
theorem rtI (C : Cx p s m args meth c D tys cc (some .int) nL ws own) : RtI p l e R s m args below meth c D A cc (MQ below (QI D tys A w r) args s 0 0 A) w r := by
  intro H locs ls pc hd hw
  obtain ⟨hx, hb, hr, hml, hown, hts, hlk, hK, hN⟩ := C
  exact W.iret hx hb hr (fun t ht hW => ⟨⟨r, (), rfl, rfl, ⟨by rw [ht]; exact hw.1, va_K.moved hW.alike hK, hw.2.1, hN.warm hW⟩⟩, hw.2.2.F ht⟩) hw.2.2.2.2 hd hlk
theorem rtZ (C : Cx p s m args meth c D tys cc (some .boolean) nL ws own) : RtZ p l e R s m args below meth c D A cc (MQ below (QI D tys A w r) args s 0 0 A) w r := by
  intro H locs ls pc hd hn hw
  obtain ⟨hx, hb, hr, hml, hown, hts, hlk, hK, hN⟩ := C
  exact W.zret hx hb hr hn (fun t ht hW => ⟨⟨r, (), rfl, rfl, ⟨by rw [ht]; exact hw.1, va_K.moved hW.alike hK, hw.2.1, hN.warm hW⟩⟩, hw.2.2.F ht⟩) hw.2.2.2.2 hd hlk
theorem rtV (C : Cx p s m args meth c D tys cc none nL ws own) : RtV p l e R s m args below meth c D A cc (MQ below (QV D tys A w) args s 0 0 A) w := by
  intro H locs ls pc hd hw
  obtain ⟨hx, hb, hr, hml, hown, hts, hlk, hK, hN⟩ := C
  exact W.vret hx hb hr (fun t ht hW => ⟨⟨(), rfl, trivial, ⟨by rw [ht]; exact hw.1, va_K.moved hW.alike hK, hw.2.1, hN.warm hW⟩⟩, hw.2.2.F ht⟩) hw.2.2.2.2 hd hlk
variable {y : MethodName} {ys : List Cond} {rm : Room} {bytes : ByteArray} {maxL n index pc : Nat} {rt : Option FieldType} {K : String} {b : Nat} {As rest stk : List Value} {ls : Array Slot} {fs : List Value} {T : u_T} {N : Nat} {host : String}
/-- a call on a cell of the world -/
theorem gVi (C : Cx p s m args meth c D tys cc ret nL ws own) (hw : Wd D A s w H locs) (hM : Met l y ys rm (va_Pc (.ref b :: As) (CX D tys A w)) (QI D tys A w' r) 0 0 A) (cw : CallW R s args own K index y bytes maxL rt ys rm 0 0 n) (ci i : Nat) (hc : vwCl[ci]? = some (K, T, N)) (he : w[i]? = some (b, .inr (ci, fs)))
    (hn : As.length = n) (hls : ls.size = nL) (hstk : stk = As.reverse ++ .ref b :: rest) (hroom : (rest.map fun v => v.category).sum ≤ 8) (hdg : decode cc pc = .ok (.invokevirtual index, 3))
    (kk : ∀ (H1 : Heap) (locs1 : List Loc), Wd D A s w' H1 locs1 → W p l e R s m args below meth c H1 locs1 0 0 Q (F0 m (pc + 3) ls (.int r :: rest))) : W p l e R s m args below meth c H locs 0 0 Q (F0 m pc ls stk) := by
  subst hstk
  obtain ⟨hx, hb, hr, hml, hown, hts, hlk, hK, hN⟩ := C
  obtain ⟨hP, hD, hS⟩ := hw
  refine va_calli (va_runV (As := As) (rest := rest) ⟨hx, hb, hml, hown, hts⟩ hM cw ⟨CX.blind, va_recv hK hP hc he, fun U hU hW => ⟨rfl, by rw [hU]; exact hP, va_K.moved hW.alike hK, hD, hN.warm hW⟩⟩ rfl hn hls rfl (lv_room hroom) hdg ⟨Nat.zero_le _, Nat.zero_le _⟩) hS (fun q _ h => h) (fun q h => h) (fun r1 u t H1 locs1 ht hvm hp hB hz hk hS => ?_)
  subst hp
  obtain ⟨hP1, hK1, hD1, -⟩ := hB
  rw [ht] at hP1
  exact kk H1 locs1 ⟨hP1, hD1, hS⟩
theorem gVv (C : Cx p s m args meth c D tys cc ret nL ws own) (hw : Wd D A s w H locs) (hM : Met l y ys rm (va_Pc (.ref b :: As) (CX D tys A w)) (QV D tys A w') 0 0 A) (cw : CallW R s args own K index y bytes maxL rt ys rm 0 0 n) (ci i : Nat) (hc : vwCl[ci]? = some (K, T, N)) (he : w[i]? = some (b, .inr (ci, fs)))
    (hn : As.length = n) (hls : ls.size = nL) (hstk : stk = As.reverse ++ .ref b :: rest) (hroom : (rest.map fun v => v.category).sum ≤ 8) (hdg : decode cc pc = .ok (.invokevirtual index, 3))
    (kk : ∀ (H1 : Heap) (locs1 : List Loc), Wd D A s w' H1 locs1 → W p l e R s m args below meth c H1 locs1 0 0 Q (F0 m (pc + 3) ls rest)) : W p l e R s m args below meth c H locs 0 0 Q (F0 m pc ls stk) := by
  subst hstk
  obtain ⟨hx, hb, hr, hml, hown, hts, hlk, hK, hN⟩ := C
  obtain ⟨hP, hD, hS⟩ := hw
  refine va_callv (va_runV (As := As) (rest := rest) ⟨hx, hb, hml, hown, hts⟩ hM cw ⟨CX.blind, va_recv hK hP hc he, fun U hU hW => ⟨rfl, by rw [hU]; exact hP, va_K.moved hW.alike hK, hD, hN.warm hW⟩⟩ rfl hn hls rfl (lv_room hroom) hdg ⟨Nat.zero_le _, Nat.zero_le _⟩) hS (fun q _ h => h) (fun q h => h) (fun u t H1 locs1 ht hvm hp hB hz hk hS => ?_)
  obtain ⟨hP1, hK1, hD1, -⟩ := hB
  rw [ht] at hP1
  exact kk H1 locs1 ⟨hP1, hD1, hS⟩
theorem gSi (C : Cx p s m args meth c D tys cc ret nL ws own) (hw : Wd D A s w H locs) (hM : Met l y ys rm (va_Pc As (CX D tys A w)) (QI D tys A w' r) 0 0 A) (cw : CallB R s args own index y bytes maxL rt ys rm 0 0 n ∧ (Cond.static y).before args s = true)
    (hn : As.length = n) (hls : ls.size = nL) (hstk : stk = As.reverse ++ rest) (hroom : (rest.map fun v => v.category).sum ≤ 8) (hdg : decode cc pc = .ok (.invokestatic index, 3))
    (kk : ∀ (H1 : Heap) (locs1 : List Loc), Wd D A s w' H1 locs1 → W p l e R s m args below meth c H1 locs1 0 0 Q (F0 m (pc + 3) ls (.int r :: rest))) : W p l e R s m args below meth c H locs 0 0 Q (F0 m pc ls stk) := by
  subst hstk
  obtain ⟨hx, hb, hr, hml, hown, hts, hlk, hK, hN⟩ := C
  obtain ⟨hP, hD, hS⟩ := hw
  refine va_calli (va_runS (As := As) (rest := rest) ⟨hx, hb, hml, hown, hts⟩ hM cw ⟨CX.blind, fun U hU hW => ⟨rfl, by rw [hU]; exact hP, va_K.moved hW.alike hK, hD, hN.warm hW⟩⟩ rfl hn hls rfl (lv_room hroom) hdg ⟨Nat.zero_le _, Nat.zero_le _⟩) hS (fun q _ h => h) (fun q h => h) (fun r1 u t H1 locs1 ht hvm hp hB hz hk hS => ?_)
  subst hp
  obtain ⟨hP1, hK1, hD1, -⟩ := hB
  rw [ht] at hP1
  exact kk H1 locs1 ⟨hP1, hD1, hS⟩
theorem gSv (C : Cx p s m args meth c D tys cc ret nL ws own) (hw : Wd D A s w H locs) (hM : Met l y ys rm (va_Pc As (CX D tys A w)) (QV D tys A w') 0 0 A) (cw : CallB R s args own index y bytes maxL rt ys rm 0 0 n ∧ (Cond.static y).before args s = true)
    (hn : As.length = n) (hls : ls.size = nL) (hstk : stk = As.reverse ++ rest) (hroom : (rest.map fun v => v.category).sum ≤ 8) (hdg : decode cc pc = .ok (.invokestatic index, 3))
    (kk : ∀ (H1 : Heap) (locs1 : List Loc), Wd D A s w' H1 locs1 → W p l e R s m args below meth c H1 locs1 0 0 Q (F0 m (pc + 3) ls rest)) : W p l e R s m args below meth c H locs 0 0 Q (F0 m pc ls stk) := by
  subst hstk
  obtain ⟨hx, hb, hr, hml, hown, hts, hlk, hK, hN⟩ := C
  obtain ⟨hP, hD, hS⟩ := hw
  refine va_callv (va_runS (As := As) (rest := rest) ⟨hx, hb, hml, hown, hts⟩ hM cw ⟨CX.blind, fun U hU hW => ⟨rfl, by rw [hU]; exact hP, va_K.moved hW.alike hK, hD, hN.warm hW⟩⟩ rfl hn hls rfl (lv_room hroom) hdg ⟨Nat.zero_le _, Nat.zero_le _⟩) hS (fun q _ h => h) (fun q h => h) (fun u t H1 locs1 ht hvm hp hB hz hk hS => ?_)
  obtain ⟨hP1, hK1, hD1, -⟩ := hB
  rw [ht] at hP1
  exact kk H1 locs1 ⟨hP1, hD1, hS⟩
theorem gSNi (C : Cx p s m args meth c D tys cc ret nL ws own) (hw : Wd D A s w H locs) (hM : Met l y ys rm (va_Pc As (CX D tys A w)) (QI D tys A w' r) 0 0 A) (cw : va_CN R s args own index y host bytes maxL rt ys rm 0 0 n ∧ (Cond.static y).before args s = true ∧ True)
    (hn : As.length = n) (hls : ls.size = nL) (hstk : stk = As.reverse ++ rest) (hroom : (rest.map fun v => v.category).sum ≤ 8) (hdg : decode cc pc = .ok (.invokestatic index, 3))
    (kk : ∀ (H1 : Heap) (locs1 : List Loc), Wd D A s w' H1 locs1 → W p l e R s m args below meth c H1 locs1 0 0 Q (F0 m (pc + 3) ls (.int r :: rest))) : W p l e R s m args below meth c H locs 0 0 Q (F0 m pc ls stk) := by
  subst hstk
  obtain ⟨hx, hb, hr, hml, hown, hts, hlk, hK, hN⟩ := C
  obtain ⟨hP, hD, hS⟩ := hw
  refine va_calli (va_runSN (As := As) (rest := rest) ⟨hx, hb, hml, hown, hts⟩ hM cw ⟨CX.blind, fun U hU hW => ⟨rfl, by rw [hU]; exact hP, va_K.moved hW.alike hK, hD, hN.warm hW⟩⟩ rfl hn hls rfl (lv_room hroom) hdg ⟨Nat.zero_le _, Nat.zero_le _⟩) hS (fun q _ h => h) (fun q h => h) (fun r1 u t H1 locs1 ht hvm hp hB hz hk hS => ?_)
  subst hp
  obtain ⟨hP1, hK1, hD1, -⟩ := hB
  rw [ht] at hP1
  exact kk H1 locs1 ⟨hP1, hD1, hS⟩
end RT
theorem nz01 {v : Int32} (h : v = 0 ∨ v = 1) : narrow .boolean (.int v) = .int v := by
  rcases h with rfl | rfl <;> decide +kernel
/-- outside a table of 0 .. n -/
theorem tsOut {x : Int32} (n : Nat) (hn : n < 1000) (h : ∀ k : Nat, k ≤ n → ¬ x = nI k) : x.toInt < 0 ∨ (n : Int) < x.toInt := by
  by_cases h0 : x.toInt < 0
  · exact Or.inl h0
  · by_cases h1 : (n : Int) < x.toInt
    · exact Or.inr h1
    · refine absurd ?_ (h x.toInt.toNat (by omega))
      apply Int32.toInt_inj.mp
      rw [nI_toInt (by omega)]
      omega
theorem cpFit {f : Nat → Int32} {k n : Nat} : ∀ i, i < n → fits .int (.int (f (k + i))) = true := fun _ _ => rfl
