def FE (σ τ : St) : Prop := (∀ k, k < 8 ∨ 15 < k → τ.1 k = σ.1 k) ∧ (∀ k, k < 6 ∨ 10 < k → τ.2 k = σ.2 k)
def FM (μ ν : St) : Prop := (∀ k, k < 6 ∨ 11 < k → ν.1 k = μ.1 k) ∧ (∀ k, k < 7 ∨ 11 < k → ν.2 k = μ.2 k)
theorem FE.trans {a b d : St} (h1 : FE a b) (h2 : FE b d) : FE a d := ⟨fun k hk => (h2.1 k hk).trans (h1.1 k hk), fun k hk => (h2.2 k hk).trans (h1.2 k hk)⟩
theorem FM.trans {a b d : St} (h1 : FM a b) (h2 : FM b d) : FM a d := ⟨fun k hk => (h2.1 k hk).trans (h1.1 k hk), fun k hk => (h2.2 k hk).trans (h1.2 k hk)⟩
theorem FE.rf (a : St) : FE a a := ⟨fun _ _ => rfl, fun _ _ => rfl⟩
theorem FM.rf (a : St) : FM a a := ⟨fun _ _ => rfl, fun _ _ => rfl⟩
theorem NE.f {a b : St} (h : NE a b) : FE a b := ⟨fun k hk => h.1 k (by omega), fun k _ => by rw [h.2]⟩
theorem NM.f {a b : St} (h : NM a b) : FM a b := ⟨fun k hk => h.1 k (by omega), fun k _ => by rw [h.2]⟩
theorem fe_i (σ : St) {j : Nat} (hj : 8 ≤ j ∧ j ≤ 15) (v : Int) : FE σ (sI σ j v) := ⟨fun k hk => by show va_up σ.1 j v k = _; rw [vu, if_neg (by omega)], fun _ _ => rfl⟩
theorem fe_a (σ : St) {j : Nat} (hj : 6 ≤ j ∧ j ≤ 10) (g : Nat → Int) : FE σ (sA σ j g) := ⟨fun _ _ => rfl, fun k hk => by show va_up σ.2 j g k = _; exact if_neg (by omega)⟩
theorem fm_i (μ : St) {j : Nat} (hj : 6 ≤ j ∧ j ≤ 11) (v : Int) : FM μ (sI μ j v) := ⟨fun k hk => by show va_up μ.1 j v k = _; rw [vu, if_neg (by omega)], fun _ _ => rfl⟩
theorem fm_a (μ : St) {j : Nat} (hj : 7 ≤ j ∧ j ≤ 11) (g : Nat → Int) : FM μ (sA μ j g) := ⟨fun _ _ => rfl, fun k hk => by show va_up μ.2 j g k = _; exact if_neg (by omega)⟩
theorem TX_.ff {σ μ τ ν : St} {c : Nat} {X : Nat → Int} (h : TX_ σ μ c X) (h1 : FE σ τ) (h2 : FM μ ν) : TX_ τ ν c X := by
  unfold TX_
  rw [h1.1 7 (by decide), h2.1 5 (by decide), h1.2 5 (by decide), h2.2 6 (by decide)]
  exact h
/-- the table as far as it is read: both alike -/
def Dr (σ μ : St) : Prop := (σ.1 11 = μ.2 7 0 ∧ 0 ≤ σ.1 11 ∧ σ.1 11 ≤ 3) ∧ (σ.1 12 = μ.2 7 1 ∧ 0 ≤ σ.1 12 ∧ σ.1 12 ≤ 99) ∧ (σ.1 13 = μ.2 7 2 ∧ 0 ≤ σ.1 13 ∧ σ.1 13 ≤ 30) ∧ (σ.1 14 = μ.1 10 ∧ 0 ≤ σ.1 14 ∧ σ.1 14 ≤ 7) ∧ (σ.1 15 = μ.1 11 ∧ 0 ≤ σ.1 15 ∧ σ.1 15 ≤ 5) ∧ (σ.1 11 = 0 → σ.1 14 = 0 ∧ σ.1 15 = 0) ∧
  (∀ e : Nat, (e : Int) < σ.1 14 → (σ.2 6 e = μ.2 8 e ∧ 0 ≤ σ.2 6 e ∧ σ.2 6 e ≤ 30) ∧ (σ.2 7 e = μ.2 9 e ∧ 1 ≤ σ.2 7 e ∧ σ.2 7 e ≤ 5) ∧ σ.2 8 e = 1) ∧
  (∀ i : Nat, (i : Int) < σ.1 15 → (σ.2 9 i = μ.2 10 i ∧ 0 ≤ σ.2 9 i ∧ σ.2 9 i ≤ 99) ∧ (σ.2 10 i = μ.2 11 i ∧ 0 ≤ σ.2 10 i ∧ σ.2 10 i ≤ 99))
def Go (σ μ : St) (c p : Nat) : Prop := σ.1 8 = (p : Int) ∧ μ.1 7 = (p : Int) ∧ p ≤ c ∧ σ.1 9 = 0 ∧ σ.1 10 = -1 ∧ μ.1 6 = -1 ∧ Dr σ μ
def Bad (τ ν : St) (f : Int) : Prop := (1 ≤ f ∧ f ≤ 3) ∧ τ.1 9 = f ∧ τ.1 10 = ν.1 6 ∧ 0 ≤ τ.1 10 ∧ τ.1 10 ≤ 240
/-- a clause's outcome -/
def ClQ (σ μ : St) (c p : Nat) (x : Option St) (y : Option (Int × St)) : Prop := ∃ (f : Int) (τ ν : St), x = some τ ∧ y = some (f, ν) ∧ FE σ τ ∧ FM μ ν ∧ ((f = 0 ∧ ∃ p', p < p' ∧ Go τ ν c p') ∨ Bad τ ν f)
theorem Dr.n {σ μ τ ν : St} (h : Dr σ μ) (h1 : NE σ τ) (h2 : NM μ ν) : Dr τ ν := by
  unfold Dr
  rw [h1.2, h2.2, h1.1 11 (by decide), h1.1 12 (by decide), h1.1 13 (by decide), h1.1 14 (by decide), h1.1 15 (by decide), h2.1 10 (by decide), h2.1 11 (by decide)]
  exact h
section
variable {σ μ : St} {c p : Nat} {X : Nat → Int}
theorem c172_bad {ν : St} {f : Int} (hf : 1 ≤ f ∧ f ≤ 3) : pX11_takeClause_172 ν f = some (f, sI ν 7 (ν.1 7 + 1)) := by
  unfold pX11_takeClause_172 pX11_takeClause_198
  rw [gd_t (by omega), if_neg (by omega)]
  rfl
theorem Bad.i {τ ν : St} {f : Int} (h : Bad τ ν f) (v : Int) : Bad τ (sI ν 7 v) f := h
theorem Bad.a {τ ν : St} {f : Int} (h : Bad τ ν f) (j : Nat) (g : Nat → Int) : Bad τ (sA ν j g) f := h
theorem pan_q (h : TX_ σ μ c X) (hg : Go σ μ c p) (hp : p < c) (h11 : σ.1 11 = 0) : ClQ σ μ c p (pX9_readPan_c9 σ) (Option.bind (pX11_takePan (sI μ 7 (μ.1 7 + 1))) fun u => nm u.1 fun r => nm u.2 fun s => pX11_takeClause_172 s r) := by
  obtain ⟨g8, g7, g1, g9, g10, g6, gD⟩ := id hg
  have hb : ∀ {τ : St} {f : Int}, (1 ≤ f ∧ f ≤ 3) → τ.1 9 = f → (¬ τ.1 9 = 0 ∧ rg (τ.1 9)) := fun a b => by omega
  unfold ClQ pX9_readPan_c9 pX9_readPan_c9_0 pX8_isLaid_c9 pX8_isLaid_c9_0 pX11_takePan pX11_takePan_0 pX11_takePan_32
  rw [h11, gd_t (show rg (0 : Int) by decide), if_pos (show (0 : Int) ≤ 0 by decide), Option.bind_some, gd_t (show rg (0 : Int) by decide), if_pos (show (0 : Int) = 0 from rfl), nm_v, g8, g7, cast1]
  have F0 : FE σ (sI σ 8 ((p + 1 : Nat) : Int)) := fe_i σ (by decide) _
  have M0 : FM μ (sI μ 7 ((p + 1 : Nat) : Int)) := fm_i μ (by decide) _
  obtain ⟨v1, f1, τ1, ν1, a1, a2, a3, a4, a5⟩ := num_q (σ := sI σ 8 ((p + 1 : Nat) : Int)) (μ := sI μ 7 ((p + 1 : Nat) : Int)) (h.ff F0 M0) (l := 1) (m := 3) (by decide) (by decide) (p := p + 1) (by omega) rfl rfl g9
  rw [a1]
  have b1 : pX11_into_a8 (sI μ 7 ((p + 1 : Nat) : Int)) 0 1 3 = some (f1, sA ν1 7 (va_up (ν1.2 7) 0 (ν1.1 8))) := by
    unfold pX11_into_a8 pX11_into_a8_0
    rw [a2]
    rfl
  rw [b1]
  simp only [Option.bind_some, nm_v]
  have F1 := F0.trans a3.f
  have M1 := (M0.trans a4.f).trans (fm_a ν1 (j := 7) (by decide) (va_up (ν1.2 7) 0 (ν1.1 8)))
  rcases a5 with ⟨rfl, q2, q3, q4, q5, q6, q7, p1, q8, q9, q10, q11⟩ | ⟨q1, q2, q3, q4, q5⟩
  rotate_left
  · obtain ⟨z1, z2⟩ := hb (τ := τ1) (f := f1) (by omega) q2
    rw [num_bad z1 z2]
    simp only [Option.bind_some, nm_v]
    rw [num_bad z1 z2]
    simp only [Option.bind_some, nm_v]
    rw [semi_bad z1 z2, Option.bind_some, gd_t z2, if_neg z1, gd_t (show rg f1 by omega), if_neg (by omega), gd_t (show rg f1 by omega), if_neg (by omega), Option.bind_some]
    simp only [nm_v]
    rw [c172_bad (by omega)]
    exact ⟨f1, _, _, rfl, rfl, F1, M1.trans (fm_i _ (j := 7) (by decide) _), Or.inr ⟨by omega, q2, q3, q4, q5⟩⟩
  rw [gd_t (show rg (0 : Int) by decide), if_pos (show (0 : Int) ≤ 0 by decide)]
  obtain ⟨v2, f2, τ2, ν2, c1, c2, c3, c4, c5⟩ := num_q (σ := τ1) (μ := sA ν1 7 (va_up (ν1.2 7) 0 (ν1.1 8))) (h.ff F1 M1) (l := 0) (m := 99) (by decide) (by decide) (p := p1) q11 q8 q9 (by rw [q5]; exact g9)
  rw [c1]
  have b2 : pX11_into_a8 (sA ν1 7 (va_up (ν1.2 7) 0 (ν1.1 8))) 1 0 99 = some (f2, sA ν2 7 (va_up (ν2.2 7) 1 (ν2.1 8))) := by
    unfold pX11_into_a8 pX11_into_a8_0
    rw [c2]
    rfl
  rw [b2]
  simp only [Option.bind_some, nm_v]
  have F2 := F1.trans c3.f
  have M2 := (M1.trans c4.f).trans (fm_a ν2 (j := 7) (by decide) (va_up (ν2.2 7) 1 (ν2.1 8)))
  rcases c5 with ⟨rfl, r2, r3, r4, r5, r6, r7, p2, r8, r9, r10, r11⟩ | ⟨r1, r2, r3, r4, r5⟩
  rotate_left
  · obtain ⟨z1, z2⟩ := hb (τ := τ2) (f := f2) (by omega) r2
    rw [num_bad z1 z2]
    simp only [Option.bind_some, nm_v]
    rw [semi_bad z1 z2, Option.bind_some, gd_t z2, if_neg z1, gd_t (show rg f2 by omega), if_neg (by omega), Option.bind_some]
    simp only [nm_v]
    rw [c172_bad (by omega)]
    exact ⟨f2, _, _, rfl, rfl, F2, M2.trans (fm_i _ (j := 7) (by decide) _), Or.inr ⟨by omega, r2, r3, r4, r5⟩⟩
  rw [gd_t (show rg (0 : Int) by decide), if_pos (show (0 : Int) ≤ 0 by decide)]
  obtain ⟨v3, f3, τ3, ν3, d1, d2, d3, d4, d5⟩ := num_q (σ := τ2) (μ := sA ν2 7 (va_up (ν2.2 7) 1 (ν2.1 8))) (h.ff F2 M2) (l := 1) (m := 30) (by decide) (by decide) (p := p2) r11 r8 r9 (by rw [r5, q5]; exact g9)
  rw [d1]
  have b3 : pX11_into_a8 (sA ν2 7 (va_up (ν2.2 7) 1 (ν2.1 8))) 2 1 30 = some (f3, sA ν3 7 (va_up (ν3.2 7) 2 (ν3.1 8))) := by
    unfold pX11_into_a8 pX11_into_a8_0
    rw [d2]
    rfl
  rw [b3]
  simp only [Option.bind_some, nm_v]
  have F3 := F2.trans d3.f
  have M3 := (M2.trans d4.f).trans (fm_a ν3 (j := 7) (by decide) (va_up (ν3.2 7) 2 (ν3.1 8)))
  rcases d5 with ⟨rfl, s2, s3, s4, s5, s6, s7, p3, s8, s9, s10, s11⟩ | ⟨s1, s2, s3, s4, s5⟩
  rotate_left
  · obtain ⟨z1, z2⟩ := hb (τ := τ3) (f := f3) (by omega) s2
    rw [semi_bad z1 z2, Option.bind_some, gd_t z2, if_neg z1, c172_bad (by omega)]
    exact ⟨f3, _, _, rfl, rfl, F3, M3.trans (fm_i _ (j := 7) (by decide) _), Or.inr ⟨by omega, s2, s3, s4, s5⟩⟩
  obtain ⟨f4, τ4, ν4, e1, e2, e3, e4, e5⟩ := semi_q (σ := τ3) (μ := sA ν3 7 (va_up (ν3.2 7) 2 (ν3.1 8))) (h.ff F3 M3) (p := p3) s11 s8 s9 (by rw [s5, r5, q5]; exact g9)
  rw [e1, e2, Option.bind_some]
  rcases e5 with ⟨rfl, t2, t3, t4, p4, t5, t6, t7, t8⟩ | ⟨t1, t2, t3, t4, t5⟩
  · rw [t2, gd_t (show rg (0 : Int) by decide), if_pos (show (0 : Int) = 0 from rfl)]
    have lay : pX8_layPan_c9 τ4 v1 v2 v3 = some (sI (sI (sI τ4 11 v1) 12 v2) 13 v3) := rfl
    rw [lay, Option.bind_some]
    have m7 : ν4.2 7 0 = v1 ∧ ν4.2 7 1 = v2 ∧ ν4.2 7 2 = v3 := by
      rw [e4.2]
      show va_up (ν3.2 7) 2 (ν3.1 8) 0 = v1 ∧ va_up (ν3.2 7) 2 (ν3.1 8) 1 = v2 ∧ va_up (ν3.2 7) 2 (ν3.1 8) 2 = v3
      rw [vu, vu, vu, if_neg (by decide), if_neg (by decide), if_pos rfl, d4.2]
      show va_up (ν2.2 7) 1 (ν2.1 8) 0 = v1 ∧ va_up (ν2.2 7) 1 (ν2.1 8) 1 = v2 ∧ _
      rw [vu, vu, if_neg (by decide), if_pos rfl, c4.2]
      show va_up (ν1.2 7) 0 (ν1.1 8) 0 = v1 ∧ _
      rw [vu, if_pos rfl]
      exact ⟨q4, r4, s4⟩
    have x14 : τ4.1 14 = σ.1 14 := by rw [e3.1 14 (by decide), d3.1 14 (by decide), c3.1 14 (by decide), a3.1 14 (by decide)]; rfl
    have x15 : τ4.1 15 = σ.1 15 := by rw [e3.1 15 (by decide), d3.1 15 (by decide), c3.1 15 (by decide), a3.1 15 (by decide)]; rfl
    have y10 : ν4.1 10 = μ.1 10 := by rw [e4.1 10 (by decide)]; show ν3.1 10 = _; rw [d4.1 10 (by decide)]; show ν2.1 10 = _; rw [c4.1 10 (by decide)]; show ν1.1 10 = _; rw [a4.1 10 (by decide)]; rfl
    have y11 : ν4.1 11 = μ.1 11 := by rw [e4.1 11 (by decide)]; show ν3.1 11 = _; rw [d4.1 11 (by decide)]; show ν2.1 11 = _; rw [c4.1 11 (by decide)]; show ν1.1 11 = _; rw [a4.1 11 (by decide)]; rfl
    obtain ⟨D1, D2, D3, D4, D5, D6, D7, D8⟩ := gD
    have D6' := D6 h11
    refine ⟨0, _, _, rfl, rfl, ((F3.trans e3.f).trans (fe_i _ (j := 11) (by decide) _)).trans ((fe_i _ (j := 12) (by decide) _).trans (fe_i _ (j := 13) (by decide) _)), M3.trans e4.f, Or.inl ⟨rfl, p4, by omega, t5, t6, t8, t2, ?_, ?_, ?_⟩⟩
    · show τ4.1 10 = -1
      rw [t3, s6, r6, q6]; exact g10
    · rw [t4]; show ν3.1 6 = -1; rw [s7]; show ν2.1 6 = -1; rw [r7]; show ν1.1 6 = -1; rw [q7]; exact g6
    · refine ⟨⟨m7.1.symm, by show 0 ≤ v1; omega, by show v1 ≤ 3; omega⟩, ⟨m7.2.1.symm, by show 0 ≤ v2; omega, by show v2 ≤ 99; omega⟩, ⟨m7.2.2.symm, by show 0 ≤ v3; omega, by show v3 ≤ 30; omega⟩, ?_, ?_, ?_, ?_, ?_⟩
      · show τ4.1 14 = ν4.1 10 ∧ 0 ≤ τ4.1 14 ∧ τ4.1 14 ≤ 7
        rw [x14, y10]; exact D4
      · show τ4.1 15 = ν4.1 11 ∧ 0 ≤ τ4.1 15 ∧ τ4.1 15 ≤ 5
        rw [x15, y11]; exact D5
      · intro q
        have q : v1 = 0 := q
        omega
      · intro e he
        have he : (e : Int) < τ4.1 14 := he
        omega
      · intro e he
        have he : (e : Int) < τ4.1 15 := he
        omega
  · obtain ⟨z1, z2⟩ := hb (τ := τ4) (f := f4) (by omega) t2
    rw [gd_t z2, if_neg z1]
    exact ⟨f4, _, _, rfl, rfl, F3.trans e3.f, M3.trans e4.f, Or.inr ⟨by omega, t2, t3, t4, t5⟩⟩
end
