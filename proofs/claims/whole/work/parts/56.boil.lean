/-! all ways to share the eggs out, in the order of the lesser places -/
def mx3 (l : Nat → Int) : Int := max (max (max 0 (l 0)) (l 1)) (l 2)
def fd {S : Type} (f : S → Nat → S) : Nat → S → S
  | 0, s => s
  | p + 1, s => f (fd f p s) p
theorem fd_id {S : Type} {f : S → Nat → S} {s : S} : ∀ {n : Nat}, (∀ p, p < n → f s p = s) → fd f n s = s
  | 0, _ => rfl
  | n + 1, h => by rw [fd, fd_id (fun p hp => h p (by omega)), h n (by omega)]
def leafU (s : Int × (Nat → Int)) (l w : Nat → Int) : Int × (Nat → Int) := if mx3 l < s.1 then (mx3 l, w) else s
def Gs (T : Nat → Int) (R : Nat) : Nat → Nat → (Nat → Int) → (Nat → Int) → (Int × (Nat → Int)) → (Int × (Nat → Int))
  | 0, _, l, w, s => leafU s l w
  | k + 1, j, l, w, s => if T j = 0 then Gs T R k (j + 1) l (va_up w j 0) s else fd (fun s p => Gs T R k (j + 1) (va_up l p (l p + T j)) (va_up w j (p : Int)) s) R s
theorem mx3_ge {l : Nat → Int} {p : Nat} (hp : p < 3) : l p ≤ mx3 l := by
  unfold mx3
  rcases (show p = 0 ∨ p = 1 ∨ p = 2 by omega) with rfl | rfl | rfl <;> omega
theorem Gs_prune {T : Nat → Int} (hT : ∀ j, 0 ≤ T j) {R : Nat} : ∀ (k j : Nat) (l w : Nat → Int) (s : Int × (Nat → Int)) (p : Nat), p < 3 → s.1 ≤ l p → Gs T R k j l w s = s := by
  intro k
  induction k with
  | zero =>
    intro j l w s p hp h
    rw [Gs, leafU, if_neg]
    have := mx3_ge (l := l) hp
    omega
  | succ k ih =>
    intro j l w s p hp h
    rw [Gs]
    by_cases h0 : T j = 0
    · rw [if_pos h0]; exact ih _ _ _ _ p hp h
    · rw [if_neg h0]
      refine fd_id (fun q hq => ih _ _ _ _ p hp ?_)
      have := hT j
      rw [vu]
      by_cases hpq : p = q
      · rw [if_pos hpq]; subst hpq; omega
      · rw [if_neg hpq]; exact h
/-- the state of a search: its least, its way, its best -/
def KS (σ : St) (L : Int) (W B : Nat → Int) : St := sA (sA (sI σ 27 L) 23 W) 24 B
theorem KS_KS (σ : St) (L L' : Int) (W B W' B' : Nat → Int) : KS (KS σ L W B) L' W' B' = KS σ L' W' B' := by
  refine Prod.ext (funext fun j => ?_) (funext fun j => ?_)
  · show (if j = 27 then L' else if j = 27 then L else σ.1 j) = (if j = 27 then L' else σ.1 j)
    by_cases h : j = 27 <;> simp [h]
  · show (if j = 24 then B' else if j = 23 then W' else if j = 24 then B else if j = 23 then W else σ.2 j) = (if j = 24 then B' else if j = 23 then W' else σ.2 j)
    by_cases h1 : j = 24 <;> by_cases h2 : j = 23 <;> simp [h1, h2]
theorem KS_same (σ : St) : KS σ (σ.1 27) (σ.2 23) (σ.2 24) = σ := by
  refine Prod.ext (funext fun j => ?_) (funext fun j => ?_)
  · show (if j = 27 then σ.1 27 else σ.1 j) = σ.1 j
    by_cases h : j = 27 <;> simp [h]
  · show (if j = 24 then σ.2 24 else if j = 23 then σ.2 23 else σ.2 j) = σ.2 j
    by_cases h1 : j = 24 <;> by_cases h2 : j = 23 <;> simp [h1, h2]
theorem KS_in (σ : St) (L L' : Int) (W B W1 W' B' l' : Nat → Int) : sA (KS (sA (sA (KS σ L W B) 22 l') 23 W1) L' W' B') 22 (σ.2 22) = KS σ L' W' B' := by
  refine Prod.ext (funext fun j => ?_) (funext fun j => ?_)
  · show (if j = 27 then L' else if j = 27 then L else σ.1 j) = (if j = 27 then L' else σ.1 j)
    by_cases h : j = 27 <;> simp [h]
  · show (if j = 22 then σ.2 22 else if j = 24 then B' else if j = 23 then W' else if j = 23 then W1 else if j = 22 then l' else if j = 24 then B else if j = 23 then W else σ.2 j) = (if j = 24 then B' else if j = 23 then W' else σ.2 j)
    by_cases h1 : j = 24 <;> by_cases h2 : j = 23 <;> by_cases h3 : j = 22 <;> simp [h1, h2, h3]
theorem va_back (l : Nat → Int) (p : Nat) (x : Int) : va_up (va_up l p x) p (l p) = l := by
  funext j
  show (if j = p then l p else if j = p then x else l j) = l j
  by_cases h : j = p <;> simp [h]
def SRB (T : Nat → Int) (s : Int × (Nat → Int)) (B : Nat → Int) : Prop := s.1 < 1000000 → ∀ i, i < 7 → (T i ≠ 0 → B i = s.2 i) ∧ (T i = 0 → B i = -1)
theorem Gs_b {T : Nat → Int} {R : Nat} {M : Int} : ∀ (k j : Nat) (l w : Nat → Int) (s : Int × (Nat → Int)), 0 ≤ s.1 ∧ s.1 ≤ M → 0 ≤ (Gs T R k j l w s).1 ∧ (Gs T R k j l w s).1 ≤ M := by
  intro k
  induction k with
  | zero =>
    intro j l w s h
    rw [Gs, leafU]
    split
    · rename_i h1
      dsimp only
      have : 0 ≤ mx3 l := by unfold mx3; omega
      omega
    · exact h
  | succ k ih =>
    intro j l w s h
    rw [Gs]
    split
    · exact ih _ _ _ _ h
    · have : ∀ r, 0 ≤ (fd (fun s p => Gs T R k (j + 1) (va_up l p (l p + T j)) (va_up w j (p : Int)) s) r s).1 ∧ (fd (fun s p => Gs T R k (j + 1) (va_up l p (l p + T j)) (va_up w j (p : Int)) s) r s).1 ≤ M := by
        intro r
        induction r with
        | zero => exact h
        | succ r ih2 => rw [fd]; exact ih _ _ _ _ ih2
      exact this R
theorem takeOver_e (σ : St) (hl : ∀ p, p < 3 → 0 ≤ σ.2 22 p ∧ σ.2 22 p ≤ 1000) (h27 : 0 ≤ σ.1 27 ∧ σ.1 27 ≤ 1000000) : pX0_takeOver σ = some (if mx3 (σ.2 22) < σ.1 27 then sA (sI σ 27 (mx3 (σ.2 22))) 24 (va_cpy (σ.2 23) (σ.2 24) 0 0 7) else σ) := by
  have h0 := hl 0 (by decide)
  have h1 := hl 1 (by decide)
  have h2 := hl 2 (by decide)
  unfold pX0_takeOver pX0_takeOver_0 mx3
  have z1 : (0 : Int) + 1 = 1 := rfl
  have z2 : (1 : Int) + 1 = 2 := rfl
  have z3 : (2 : Int) + 1 = 3 := rfl
  have t0 : Int.toNat 0 = 0 := rfl
  have t1 : Int.toNat 1 = 1 := rfl
  have t2 : Int.toNat 2 = 2 := rfl
  rw [show FU = 99996 + 1 + 1 + 1 + 1 from rfl, pX0_takeOver_4]
  simp (disch := omega) only [gd_t, if_neg, t0, z1]
  rw [pX0_takeOver_4]
  simp (disch := omega) only [gd_t, if_neg, t1, z2]
  rw [pX0_takeOver_4]
  simp (disch := omega) only [gd_t, if_neg, t2, z3]
  rw [pX0_takeOver_4]
  simp (disch := omega) only [gd_t, if_pos]
  by_cases hc : max (max (max 0 (σ.2 22 0)) (σ.2 22 1)) (σ.2 22 2) < σ.1 27
  · rw [if_neg (by omega), if_pos hc]; rfl
  · rw [if_pos (by omega), if_neg hc]
theorem tf_e {T : Nat → Int} {R : Nat} (hT : ∀ j, 0 ≤ T j ∧ T j ≤ 30) (hR : R ≤ 3) : ∀ (k e fu : Nat) (σ : St) (w : Nat → Int) (s : Int × (Nat → Int)), e + k = 7 → σ.1 26 = (R : Int) → (∀ i, i < 7 → σ.2 21 i = T i) → (∀ p, p < 3 → 0 ≤ σ.2 22 p ∧ σ.2 22 p ≤ 30 * e) → s.1 = σ.1 27 → 0 ≤ s.1 ∧ s.1 ≤ 1000000 → SRB T s (σ.2 24) → (∀ i, i < 7 → (i < e → T i ≠ 0 → σ.2 23 i = w i) ∧ (T i = 0 → σ.2 23 i = -1)) →
    ∃ W B, pX0_tryFrom (fu + k + 1) σ (e : Int) = some (KS σ (Gs T R k e (σ.2 22) w s).1 W B) ∧ SRB T (Gs T R k e (σ.2 22) w s) B ∧ (∀ i, i < 7 → (i < e ∨ T i = 0) → W i = σ.2 23 i) := by
  intro k
  induction k with
  | zero =>
    intro e fu σ w s he h26 h21 h22 hs1 hs2 hsB hw
    obtain rfl : e = 7 := by omega
    rw [Gs, leafU, hs1]
    rw [pX0_tryFrom]
    unfold pX0_tryFrom_0 pX0_tryFrom_10
    rw [takeOver_e σ (fun p hp => by have := h22 p hp; omega) (by omega)]
    simp (disch := omega) only [gd_t, if_neg, Option.bind_some]
    by_cases hc : mx3 (σ.2 22) < σ.1 27
    · rw [if_pos hc, if_pos hc]
      refine ⟨σ.2 23, va_cpy (σ.2 23) (σ.2 24) 0 0 7, ?_, fun _ i hi => ?_, fun _ _ _ => rfl⟩
      · congr 1
        show _ = sA (sA (sI σ 27 (mx3 (σ.2 22))) 23 (σ.2 23)) 24 _
        have : sA (sI σ 27 (mx3 (σ.2 22))) 23 (σ.2 23) = sI σ 27 (mx3 (σ.2 22)) := sA_same (sI σ 27 (mx3 (σ.2 22))) 23
        rw [this]
      · have z : va_cpy (σ.2 23) (σ.2 24) 0 0 7 i = σ.2 23 i := by unfold va_cpy; rw [if_pos (by omega), Nat.zero_add, Nat.sub_zero]
        rw [z]
        exact ⟨fun q => (hw i hi).1 hi q, (hw i hi).2⟩
    · rw [if_neg hc, if_neg hc]
      exact ⟨σ.2 23, σ.2 24, by rw [hs1, KS_same], hsB, fun _ _ _ => rfl⟩
  | succ k ih =>
    intro e fu σ w s he h26 h21 h22 hs1 hs2 hsB hw
    have hTe := hT e
    rw [show fu + (k + 1) + 1 = (fu + k + 1) + 1 from by omega, pX0_tryFrom, Gs]
    unfold pX0_tryFrom_0
    rw [gd_t (by omega), if_neg (by omega), gd_t (by omega), if_pos (by omega), gd_t (by omega), Int.toNat_natCast, h21 e (by omega), gd_t (by omega)]
    by_cases h0 : T e = 0
    · rw [if_pos h0, if_pos h0, cast1]
      obtain ⟨W, B, e1, e2, e3⟩ := ih (e + 1) fu σ (va_up w e 0) s (by omega) h26 h21 (fun p hp => by have := h22 p hp; omega) hs1 hs2 hsB (fun i hi => ⟨fun q1 q2 => by
        have hie : ¬ i = e := fun q => q2 (by rw [q]; exact h0)
        rw [vu, if_neg hie]
        exact (hw i hi).1 (by omega) q2, (hw i hi).2⟩)
      rw [e1]
      exact ⟨W, B, rfl, e2, fun i hi q => e3 i hi (q.elim (fun q => Or.inl (by omega)) Or.inr)⟩
    · rw [if_neg h0, if_neg h0]
      obtain ⟨⟨W, B⟩, m, ⟨i1, i2⟩, eq⟩ := lp_exA (fun m i (q : (Nat → Int) × (Nat → Int)) => pX0_tryFrom_34 (pX0_tryFrom (fu + k + 1)) m (KS σ (fd (fun s p => Gs T R k (e + 1) (va_up (σ.2 22) p (σ.2 22 p + T e)) (va_up w e (p : Int)) s) i.toNat s).1 q.1 q.2) (e : Int) i) (fun p q => SRB T (fd (fun s p => Gs T R k (e + 1) (va_up (σ.2 22) p (σ.2 22 p + T e)) (va_up w e (p : Int)) s) p s) q.2 ∧ ∀ i, i < 7 → (i < e ∨ T i = 0) → q.1 i = σ.2 23 i) 0 R (Nat.zero_le _) (by omega) (σ.2 23, σ.2 24) ⟨hsB, fun _ _ _ => rfl⟩ (fun m p q hp1 hp hI => by
        obtain ⟨i1, i2⟩ := hI
        have hb : 0 ≤ (fd (fun s p => Gs T R k (e + 1) (va_up (σ.2 22) p (σ.2 22 p + T e)) (va_up w e (p : Int)) s) p s).1 ∧ (fd (fun s p => Gs T R k (e + 1) (va_up (σ.2 22) p (σ.2 22 p + T e)) (va_up w e (p : Int)) s) p s).1 ≤ 1000000 := by
          have : ∀ r, 0 ≤ (fd (fun s p => Gs T R k (e + 1) (va_up (σ.2 22) p (σ.2 22 p + T e)) (va_up w e (p : Int)) s) r s).1 ∧ (fd (fun s p => Gs T R k (e + 1) (va_up (σ.2 22) p (σ.2 22 p + T e)) (va_up w e (p : Int)) s) r s).1 ≤ 1000000 := by
            intro r
            induction r with
            | zero => exact hs2
            | succ r ih2 => rw [fd]; exact Gs_b _ _ _ _ _ ih2
          exact this p
        have hlp := h22 p (by omega)
        rw [Int.toNat_natCast, Int.toNat_natCast, fd]
        generalize fd (fun s p => Gs T R k (e + 1) (va_up (σ.2 22) p (σ.2 22 p + T e)) (va_up w e (p : Int)) s) p s = sp at i1 hb ⊢
        have k26 : (KS σ sp.1 q.1 q.2).1 26 = (R : Int) := h26
        have k27 : (KS σ sp.1 q.1 q.2).1 27 = sp.1 := rfl
        have k22 : (KS σ sp.1 q.1 q.2).2 22 = σ.2 22 := rfl
        have k21 : (KS σ sp.1 q.1 q.2).2 21 e = T e := h21 e (by omega)
        have k23 : (KS σ sp.1 q.1 q.2).2 23 = q.1 := rfl
        rw [pX0_tryFrom_34, k26, gd_t (by omega), if_neg (by omega), gd_t (by omega), if_neg (by omega), gd_t (by omega), gd_t (by omega), Int.toNat_natCast, Int.toNat_natCast, k22, k21, k27, gd_t (by omega)]
        unfold pX0_tryFrom_104
        by_cases hc : sp.1 ≤ σ.2 22 p + T e
        · have hpr := Gs_prune (fun j => (hT j).1) (R := R) k (e + 1) (va_up (σ.2 22) p (σ.2 22 p + T e)) (va_up w e (p : Int)) sp p (by omega) (by rw [vu, if_pos rfl]; exact hc)
          rw [if_pos hc, hpr, cast1]
          exact ⟨q, ⟨i1, i2⟩, rfl⟩
        · rw [if_neg hc, gd_t (by omega), gd_t (by omega), nm_v, gd_t (by omega), nm_v, cast1]
          have k23' : (sA (KS σ sp.1 q.1 q.2) 22 (va_up (σ.2 22) p (σ.2 22 p + T e))).2 23 = q.1 := rfl
          rw [k23']
          obtain ⟨W', B', e1, e2, e3⟩ := ih (e + 1) fu (sA (sA (KS σ sp.1 q.1 q.2) 22 (va_up (σ.2 22) p (σ.2 22 p + T e))) 23 (va_up q.1 e (p : Int))) (va_up w e (p : Int)) sp (by omega) h26 h21 (fun p' hp' => by
              show 0 ≤ va_up (σ.2 22) p (σ.2 22 p + T e) p' ∧ va_up (σ.2 22) p (σ.2 22 p + T e) p' ≤ 30 * ((e + 1 : Nat) : Int)
              have := h22 p' hp'
              rw [vu]
              split <;> omega) rfl hb i1 (fun i hi => ⟨fun q1 q2 => by
                show va_up q.1 e (p : Int) i = va_up w e (p : Int) i
                rw [vu, vu]
                by_cases hie : i = e
                · rw [if_pos hie, if_pos hie]
                · rw [if_neg hie, if_neg hie, i2 i hi (Or.inl (by omega))]
                  exact (hw i hi).1 (by omega) q2, fun q2 => by
                show va_up q.1 e (p : Int) i = -1
                rw [vu, if_neg (show ¬ i = e from fun z => h0 (by rw [← z]; exact q2)), i2 i hi (Or.inr q2)]
                exact (hw i hi).2 q2⟩)
          have e1' : pX0_tryFrom (fu + k + 1) (sA (sA (KS σ sp.1 q.1 q.2) 22 (va_up (σ.2 22) p (σ.2 22 p + T e))) 23 (va_up q.1 e (p : Int))) ((e + 1 : Nat) : Int) = some (KS (sA (sA (KS σ sp.1 q.1 q.2) 22 (va_up (σ.2 22) p (σ.2 22 p + T e))) 23 (va_up q.1 e (p : Int))) (Gs T R k (e + 1) (va_up (σ.2 22) p (σ.2 22 p + T e)) (va_up w e (p : Int)) sp).1 W' B') := e1
          rw [e1', Option.bind_some, gd_t (by omega), nm_v]
          have k22'' : (KS (sA (sA (KS σ sp.1 q.1 q.2) 22 (va_up (σ.2 22) p (σ.2 22 p + T e))) 23 (va_up q.1 e (p : Int))) (Gs T R k (e + 1) (va_up (σ.2 22) p (σ.2 22 p + T e)) (va_up w e (p : Int)) sp).1 W' B').2 22 = va_up (σ.2 22) p (σ.2 22 p + T e) := rfl
          rw [k22'', va_back, KS_in, cast1]
          refine ⟨(W', B'), ⟨e2, fun i hi hq => ?_⟩, rfl⟩
          have := e3 i hi (hq.elim (fun q => Or.inl (by omega)) Or.inr)
          have this : W' i = va_up q.1 e (p : Int) i := this
          dsimp only
          rw [this, vu, if_neg (show ¬ i = e from fun z => by rcases hq with z1 | z1; omega; exact h0 (by rw [← z]; exact z1)), i2 i hi hq])
      have eq' : pX0_tryFrom_34 (pX0_tryFrom (fu + k + 1)) FU (KS σ s.1 (σ.2 23) (σ.2 24)) (e : Int) 0 = pX0_tryFrom_34 (pX0_tryFrom (fu + k + 1)) (m + 1) (KS σ (fd (fun s p => Gs T R k (e + 1) (va_up (σ.2 22) p (σ.2 22 p + T e)) (va_up w e (p : Int)) s) R s).1 W B) (e : Int) (R : Int) := eq
      rw [hs1, KS_same] at eq'
      refine ⟨W, B, ?_, i1, i2⟩
      rw [eq', pX0_tryFrom_34]
      have k26 : (KS σ (fd (fun s p => Gs T R k (e + 1) (va_up (σ.2 22) p (σ.2 22 p + T e)) (va_up w e (p : Int)) s) R s).1 W B).1 26 = (R : Int) := h26
      rw [k26, gd_t (by omega), if_pos (by omega)]
