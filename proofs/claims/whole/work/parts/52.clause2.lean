section
variable {σ μ : St} {c p : Nat} {X : Nat → Int}
theorem addEgg_e {τ : St} {k : Nat} (hk : τ.1 14 = (k : Int)) (h7 : k < 7) (a b : Int) : pX8_addEgg_c9 τ a b = some (sI (sA (sA (sA τ 6 (va_up (τ.2 6) k a)) 7 (va_up (τ.2 7) k b)) 8 (va_up (τ.2 8) k 1)) 14 ((k + 1 : Nat) : Int)) := by
  unfold pX8_addEgg_c9 pX8_addEgg_c9_0
  rw [hk]
  simp (disch := omega) only [gd_t, if_neg, nm, sA_1, sA_2, hk, Int.toNat_natCast, cast1]
theorem addEater_e {τ : St} {k : Nat} (hk : τ.1 15 = (k : Int)) (h7 : k < 5) (a b : Int) : pX8_addEater_c9 τ a b = some (sI (sA (sA τ 9 (va_up (τ.2 9) k a)) 10 (va_up (τ.2 10) k b)) 15 ((k + 1 : Nat) : Int)) := by
  unfold pX8_addEater_c9 pX8_addEater_c9_0
  rw [hk]
  simp (disch := omega) only [gd_t, if_neg, nm, sA_1, sA_2, hk, Int.toNat_natCast, cast1]
theorem egg_cl (h : TX_ σ μ c X) (hg : Go σ μ c p) (hp : p < c) (h11 : σ.1 11 ≠ 0) {k : Nat} (hk : σ.1 14 = (k : Int)) (hk7 : k < 7) : ClQ σ μ c p (pX9_readEgg_c9 σ) (Option.bind (pX11_takeEgg (sI μ 7 (μ.1 7 + 1))) fun u => nm u.1 fun r => nm u.2 fun s => pX11_takeClause_172 s r) := by
  obtain ⟨g8, g7, g1, g9, g10, g6, gD⟩ := id hg
  obtain ⟨D1, D2, D3, D4, D5, D6, D7, D8⟩ := id gD
  have hb : ∀ {τ : St} {f : Int}, (1 ≤ f ∧ f ≤ 3) → τ.1 9 = f → (¬ τ.1 9 = 0 ∧ rg (τ.1 9)) := fun a b => by omega
  unfold ClQ pX9_readEgg_c9 pX9_readEgg_c9_0 pX11_takeEgg pX11_takeEgg_0
  rw [gd_t (show rg (σ.1 14) by omega), if_pos (show σ.1 14 < 7 by omega), nm_v, nm_v, g8, g7, cast1, show (sI μ 7 ((p + 1 : Nat) : Int)).1 10 = (k : Int) from by show μ.1 10 = _; omega, cast1]
  have F0 : FE σ (sI σ 8 ((p + 1 : Nat) : Int)) := fe_i σ (by decide) _
  have M0 : FM μ (sI (sI μ 7 ((p + 1 : Nat) : Int)) 10 ((k + 1 : Nat) : Int)) := (fm_i μ (j := 7) (by decide) _).trans (fm_i _ (j := 10) (by decide) _)
  obtain ⟨v1, f1, τ1, ν1, a1, a2, a3, a4, a5⟩ := num_q (σ := sI σ 8 ((p + 1 : Nat) : Int)) (μ := sI (sI μ 7 ((p + 1 : Nat) : Int)) 10 ((k + 1 : Nat) : Int)) (h.ff F0 M0) (l := 0) (m := 30) (by decide) (by decide) (p := p + 1) (by omega) rfl rfl g9
  rw [a1]
  have b1 : pX11_into_a9 (sI (sI μ 7 ((p + 1 : Nat) : Int)) 10 ((k + 1 : Nat) : Int)) (k : Int) 0 30 = some (f1, sA ν1 8 (va_up (ν1.2 8) k (ν1.1 8))) := by
    unfold pX11_into_a9 pX11_into_a9_0
    rw [a2, Option.bind_some]
    simp only [nm_v]
    rw [gd_t (by omega), Int.toNat_natCast]
  rw [b1]
  simp only [Option.bind_some, nm_v]
  have F1 := F0.trans a3.f
  have M1 := (M0.trans a4.f).trans (fm_a ν1 (j := 8) (by decide) (va_up (ν1.2 8) k (ν1.1 8)))
  rcases a5 with ⟨rfl, q2, q3, q4, q5, q6, q7, p1, q8, q9, q10, q11⟩ | ⟨q1, q2, q3, q4, q5⟩
  rotate_left
  · obtain ⟨z1, z2⟩ := hb (τ := τ1) (f := f1) (by omega) q2
    rw [num_bad z1 z2]
    simp only [Option.bind_some, nm_v]
    rw [semi_bad z1 z2, Option.bind_some, gd_t z2, if_neg z1, gd_t (show rg f1 by omega), if_neg (by omega), Option.bind_some]
    simp only [nm_v]
    rw [c172_bad (by omega)]
    exact ⟨f1, _, _, rfl, rfl, F1, M1.trans (fm_i _ (j := 7) (by decide) _), Or.inr ⟨by omega, q2, q3, q4, q5⟩⟩
  rw [gd_t (show rg (0 : Int) by decide), if_pos (show (0 : Int) ≤ 0 by decide)]
  obtain ⟨v2, f2, τ2, ν2, c1, c2, c3, c4, c5⟩ := num_q (σ := τ1) (μ := sA ν1 8 (va_up (ν1.2 8) k (ν1.1 8))) (h.ff F1 M1) (l := 1) (m := 5) (by decide) (by decide) (p := p1) q11 q8 q9 (by rw [q5]; exact g9)
  rw [c1]
  have b2 : pX11_into_a10 (sA ν1 8 (va_up (ν1.2 8) k (ν1.1 8))) (k : Int) 1 5 = some (f2, sA ν2 9 (va_up (ν2.2 9) k (ν2.1 8))) := by
    unfold pX11_into_a10 pX11_into_a10_0
    rw [c2, Option.bind_some]
    simp only [nm_v]
    rw [gd_t (by omega), Int.toNat_natCast]
  rw [b2]
  simp only [Option.bind_some, nm_v]
  have F2 := F1.trans c3.f
  have M2 := (M1.trans c4.f).trans (fm_a ν2 (j := 9) (by decide) (va_up (ν2.2 9) k (ν2.1 8)))
  rcases c5 with ⟨rfl, r2, r3, r4, r5, r6, r7, p2, r8, r9, r10, r11⟩ | ⟨r1, r2, r3, r4, r5⟩
  rotate_left
  · obtain ⟨z1, z2⟩ := hb (τ := τ2) (f := f2) (by omega) r2
    rw [semi_bad z1 z2, Option.bind_some, gd_t z2, if_neg z1, c172_bad (by omega)]
    exact ⟨f2, _, _, rfl, rfl, F2, M2.trans (fm_i _ (j := 7) (by decide) _), Or.inr ⟨by omega, r2, r3, r4, r5⟩⟩
  obtain ⟨f4, τ4, ν4, e1, e2, e3, e4, e5⟩ := semi_q (σ := τ2) (μ := sA ν2 9 (va_up (ν2.2 9) k (ν2.1 8))) (h.ff F2 M2) (p := p2) r11 r8 r9 (by rw [r5, q5]; exact g9)
  rw [e1, e2, Option.bind_some]
  rcases e5 with ⟨rfl, t2, t3, t4, p4, t5, t6, t7, t8⟩ | ⟨t1, t2, t3, t4, t5⟩
  · have x14 : τ4.1 14 = (k : Int) := by rw [e3.1 14 (by decide), c3.1 14 (by decide), a3.1 14 (by decide)]; exact hk
    have xs : τ4.2 = σ.2 := by rw [e3.2, c3.2, a3.2]; rfl
    have xn : ∀ j, 10 < j → τ4.1 j = σ.1 j := fun j hj => by rw [e3.1 j (by omega), c3.1 j (by omega), a3.1 j (by omega)]; show va_up σ.1 8 _ j = _; rw [vu, if_neg (by omega)]
    have ym : ∀ j, j ≠ 8 → j ≠ 9 → ν4.2 j = μ.2 j := fun j h1 h2 => by
      rw [e4.2]; show va_up ν2.2 9 _ j = _; rw [show va_up ν2.2 9 (va_up (ν2.2 9) k (ν2.1 8)) j = ν2.2 j from if_neg h2, c4.2]; show va_up ν1.2 8 _ j = _; rw [show va_up ν1.2 8 (va_up (ν1.2 8) k (ν1.1 8)) j = ν1.2 j from if_neg h1, a4.2]; rfl
    have y8 : ν4.2 8 = va_up (μ.2 8) k v1 := by
      rw [e4.2]; show ν2.2 8 = _; rw [c4.2]; show va_up (ν1.2 8) k (ν1.1 8) = _; rw [a4.2, q4]; rfl
    have y9 : ν4.2 9 = va_up (μ.2 9) k v2 := by
      rw [e4.2]; show va_up (ν2.2 9) k (ν2.1 8) = _; rw [c4.2, r4]; show va_up (ν1.2 9) k v2 = _; rw [a4.2]; rfl
    have y10 : ν4.1 10 = ((k + 1 : Nat) : Int) := by rw [e4.1 10 (by decide)]; show ν2.1 10 = _; rw [c4.1 10 (by decide)]; show ν1.1 10 = _; rw [a4.1 10 (by decide)]; rfl
    have y11 : ν4.1 11 = μ.1 11 := by rw [e4.1 11 (by decide)]; show ν2.1 11 = _; rw [c4.1 11 (by decide)]; show ν1.1 11 = _; rw [a4.1 11 (by decide)]; rfl
    rw [t2, gd_t (show rg (0 : Int) by decide), if_pos (show (0 : Int) = 0 from rfl), addEgg_e x14 hk7, Option.bind_some, xs]
    refine ⟨0, _, _, rfl, rfl, ((F2.trans e3.f).trans (fe_a _ (j := 6) (by decide) _)).trans (((fe_a _ (j := 7) (by decide) _).trans (fe_a _ (j := 8) (by decide) _)).trans (fe_i _ (j := 14) (by decide) _)), M2.trans e4.f, Or.inl ⟨rfl, p4, by omega, t5, t6, t8, t2, ?_, ?_, ?_⟩⟩
    · show τ4.1 10 = -1
      rw [t3, r6, q6]; exact g10
    · rw [t4]; show ν2.1 6 = -1; rw [r7]; show ν1.1 6 = -1; rw [q7]; exact g6
    · refine ⟨?_, ?_, ?_, ?_, ?_, ?_, ?_, ?_⟩
      · show τ4.1 11 = ν4.2 7 0 ∧ 0 ≤ τ4.1 11 ∧ τ4.1 11 ≤ 3
        rw [xn 11 (by decide), ym 7 (by decide) (by decide)]; exact D1
      · show τ4.1 12 = ν4.2 7 1 ∧ 0 ≤ τ4.1 12 ∧ τ4.1 12 ≤ 99
        rw [xn 12 (by decide), ym 7 (by decide) (by decide)]; exact D2
      · show τ4.1 13 = ν4.2 7 2 ∧ 0 ≤ τ4.1 13 ∧ τ4.1 13 ≤ 30
        rw [xn 13 (by decide), ym 7 (by decide) (by decide)]; exact D3
      · show ((k + 1 : Nat) : Int) = ν4.1 10 ∧ 0 ≤ ((k + 1 : Nat) : Int) ∧ ((k + 1 : Nat) : Int) ≤ 7
        rw [y10]; omega
      · show τ4.1 15 = ν4.1 11 ∧ 0 ≤ τ4.1 15 ∧ τ4.1 15 ≤ 5
        rw [xn 15 (by decide), y11]; exact D5
      · intro q
        have q : τ4.1 11 = 0 := q
        rw [xn 11 (by decide)] at q
        exact absurd q h11
      · intro e he
        have he : (e : Int) < ((k + 1 : Nat) : Int) := he
        show (va_up (σ.2 6) k v1 e = ν4.2 8 e ∧ 0 ≤ va_up (σ.2 6) k v1 e ∧ va_up (σ.2 6) k v1 e ≤ 30) ∧ (va_up (σ.2 7) k v2 e = ν4.2 9 e ∧ 1 ≤ va_up (σ.2 7) k v2 e ∧ va_up (σ.2 7) k v2 e ≤ 5) ∧ va_up (σ.2 8) k 1 e = 1
        rw [y8, y9, vu, vu, vu, vu, vu]
        by_cases hek : e = k
        · rw [if_pos hek, if_pos hek, if_pos hek, if_pos hek, if_pos hek]; omega
        · rw [if_neg hek, if_neg hek, if_neg hek, if_neg hek, if_neg hek]; exact D7 e (by omega)
      · intro i hi
        have hi : (i : Int) < τ4.1 15 := hi
        rw [xn 15 (by decide)] at hi
        show (τ4.2 9 i = ν4.2 10 i ∧ 0 ≤ τ4.2 9 i ∧ τ4.2 9 i ≤ 99) ∧ (τ4.2 10 i = ν4.2 11 i ∧ 0 ≤ τ4.2 10 i ∧ τ4.2 10 i ≤ 99)
        rw [xs, ym 10 (by decide) (by decide), ym 11 (by decide) (by decide)]
        exact D8 i hi
  · obtain ⟨z1, z2⟩ := hb (τ := τ4) (f := f4) (by omega) t2
    rw [gd_t z2, if_neg z1]
    exact ⟨f4, _, _, rfl, rfl, F2.trans e3.f, M2.trans e4.f, Or.inr ⟨by omega, t2, t3, t4, t5⟩⟩
theorem eater_cl (h : TX_ σ μ c X) (hg : Go σ μ c p) (hp : p < c) (h11 : σ.1 11 ≠ 0) {k : Nat} (hk : σ.1 15 = (k : Int)) (hk7 : k < 5) : ClQ σ μ c p (pX9_readEater_c9 σ) (Option.bind (pX11_takeEater (sI μ 7 (μ.1 7 + 1))) fun u => nm u.1 fun r => nm u.2 fun s => pX11_takeClause_172 s r) := by
  obtain ⟨g8, g7, g1, g9, g10, g6, gD⟩ := id hg
  obtain ⟨D1, D2, D3, D4, D5, D6, D7, D8⟩ := id gD
  have hb : ∀ {τ : St} {f : Int}, (1 ≤ f ∧ f ≤ 3) → τ.1 9 = f → (¬ τ.1 9 = 0 ∧ rg (τ.1 9)) := fun a b => by omega
  unfold ClQ pX9_readEater_c9 pX9_readEater_c9_0 pX11_takeEater pX11_takeEater_0
  rw [gd_t (show rg (σ.1 15) by omega), if_pos (show σ.1 15 < 5 by omega), nm_v, nm_v, g8, g7, cast1, show (sI μ 7 ((p + 1 : Nat) : Int)).1 11 = (k : Int) from by show μ.1 11 = _; omega, cast1]
  have F0 : FE σ (sI σ 8 ((p + 1 : Nat) : Int)) := fe_i σ (by decide) _
  have M0 : FM μ (sI (sI μ 7 ((p + 1 : Nat) : Int)) 11 ((k + 1 : Nat) : Int)) := (fm_i μ (j := 7) (by decide) _).trans (fm_i _ (j := 11) (by decide) _)
  obtain ⟨v1, f1, τ1, ν1, a1, a2, a3, a4, a5⟩ := num_q (σ := sI σ 8 ((p + 1 : Nat) : Int)) (μ := sI (sI μ 7 ((p + 1 : Nat) : Int)) 11 ((k + 1 : Nat) : Int)) (h.ff F0 M0) (l := 0) (m := 99) (by decide) (by decide) (p := p + 1) (by omega) rfl rfl g9
  rw [a1]
  have b1 : pX11_into_a11 (sI (sI μ 7 ((p + 1 : Nat) : Int)) 11 ((k + 1 : Nat) : Int)) (k : Int) 0 99 = some (f1, sA ν1 10 (va_up (ν1.2 10) k (ν1.1 8))) := by
    unfold pX11_into_a11 pX11_into_a11_0
    rw [a2, Option.bind_some]
    simp only [nm_v]
    rw [gd_t (by omega), Int.toNat_natCast]
  rw [b1]
  simp only [Option.bind_some, nm_v]
  have F1 := F0.trans a3.f
  have M1 := (M0.trans a4.f).trans (fm_a ν1 (j := 10) (by decide) (va_up (ν1.2 10) k (ν1.1 8)))
  rcases a5 with ⟨rfl, q2, q3, q4, q5, q6, q7, p1, q8, q9, q10, q11⟩ | ⟨q1, q2, q3, q4, q5⟩
  rotate_left
  · obtain ⟨z1, z2⟩ := hb (τ := τ1) (f := f1) (by omega) q2
    rw [num_bad z1 z2]
    simp only [Option.bind_some, nm_v]
    rw [semi_bad z1 z2, Option.bind_some, gd_t z2, if_neg z1, gd_t (show rg f1 by omega), if_neg (by omega), Option.bind_some]
    simp only [nm_v]
    rw [c172_bad (by omega)]
    exact ⟨f1, _, _, rfl, rfl, F1, M1.trans (fm_i _ (j := 7) (by decide) _), Or.inr ⟨by omega, q2, q3, q4, q5⟩⟩
  rw [gd_t (show rg (0 : Int) by decide), if_pos (show (0 : Int) ≤ 0 by decide), gd_t (show 0 ≤ (k : Int) ∧ (k : Int) < 5 by omega), Int.toNat_natCast]
  have ez : (sA ν1 10 (va_up (ν1.2 10) k (ν1.1 8))).2 10 k = v1 := by show va_up (ν1.2 10) k (ν1.1 8) k = _; rw [vu, if_pos rfl]; exact q4
  rw [ez]
  obtain ⟨v2, f2, τ2, ν2, c1, c2, c3, c4, c5⟩ := num_q (σ := τ1) (μ := sA ν1 10 (va_up (ν1.2 10) k (ν1.1 8))) (h.ff F1 M1) (l := v1) (m := 99) (by omega) (by decide) (p := p1) q11 q8 q9 (by rw [q5]; exact g9)
  rw [c1]
  have b2 : pX11_into_a12 (sA ν1 10 (va_up (ν1.2 10) k (ν1.1 8))) (k : Int) v1 99 = some (f2, sA ν2 11 (va_up (ν2.2 11) k (ν2.1 8))) := by
    unfold pX11_into_a12 pX11_into_a12_0
    rw [c2, Option.bind_some]
    simp only [nm_v]
    rw [gd_t (by omega), Int.toNat_natCast]
  rw [b2]
  simp only [Option.bind_some, nm_v]
  have F2 := F1.trans c3.f
  have M2 := (M1.trans c4.f).trans (fm_a ν2 (j := 11) (by decide) (va_up (ν2.2 11) k (ν2.1 8)))
  rcases c5 with ⟨rfl, r2, r3, r4, r5, r6, r7, p2, r8, r9, r10, r11⟩ | ⟨r1, r2, r3, r4, r5⟩
  rotate_left
  · obtain ⟨z1, z2⟩ := hb (τ := τ2) (f := f2) (by omega) r2
    rw [semi_bad z1 z2, Option.bind_some, gd_t z2, if_neg z1, c172_bad (by omega)]
    exact ⟨f2, _, _, rfl, rfl, F2, M2.trans (fm_i _ (j := 7) (by decide) _), Or.inr ⟨by omega, r2, r3, r4, r5⟩⟩
  obtain ⟨f4, τ4, ν4, e1, e2, e3, e4, e5⟩ := semi_q (σ := τ2) (μ := sA ν2 11 (va_up (ν2.2 11) k (ν2.1 8))) (h.ff F2 M2) (p := p2) r11 r8 r9 (by rw [r5, q5]; exact g9)
  rw [e1, e2, Option.bind_some]
  rcases e5 with ⟨rfl, t2, t3, t4, p4, t5, t6, t7, t8⟩ | ⟨t1, t2, t3, t4, t5⟩
  · have x15 : τ4.1 15 = (k : Int) := by rw [e3.1 15 (by decide), c3.1 15 (by decide), a3.1 15 (by decide)]; exact hk
    have xs : τ4.2 = σ.2 := by rw [e3.2, c3.2, a3.2]; rfl
    have xn : ∀ j, 10 < j → τ4.1 j = σ.1 j := fun j hj => by rw [e3.1 j (by omega), c3.1 j (by omega), a3.1 j (by omega)]; show va_up σ.1 8 _ j = _; rw [vu, if_neg (by omega)]
    have ym : ∀ j, j ≠ 10 → j ≠ 11 → ν4.2 j = μ.2 j := fun j h1 h2 => by
      rw [e4.2]; show va_up ν2.2 11 _ j = _; rw [show va_up ν2.2 11 (va_up (ν2.2 11) k (ν2.1 8)) j = ν2.2 j from if_neg h2, c4.2]; show va_up ν1.2 10 _ j = _; rw [show va_up ν1.2 10 (va_up (ν1.2 10) k (ν1.1 8)) j = ν1.2 j from if_neg h1, a4.2]; rfl
    have y8 : ν4.2 10 = va_up (μ.2 10) k v1 := by
      rw [e4.2]; show ν2.2 10 = _; rw [c4.2]; show va_up (ν1.2 10) k (ν1.1 8) = _; rw [a4.2, q4]; rfl
    have y9 : ν4.2 11 = va_up (μ.2 11) k v2 := by
      rw [e4.2]; show va_up (ν2.2 11) k (ν2.1 8) = _; rw [c4.2, r4]; show va_up (ν1.2 11) k v2 = _; rw [a4.2]; rfl
    have y11 : ν4.1 11 = ((k + 1 : Nat) : Int) := by rw [e4.1 11 (by decide)]; show ν2.1 11 = _; rw [c4.1 11 (by decide)]; show ν1.1 11 = _; rw [a4.1 11 (by decide)]; rfl
    have y10 : ν4.1 10 = μ.1 10 := by rw [e4.1 10 (by decide)]; show ν2.1 10 = _; rw [c4.1 10 (by decide)]; show ν1.1 10 = _; rw [a4.1 10 (by decide)]; rfl
    rw [t2, gd_t (show rg (0 : Int) by decide), if_pos (show (0 : Int) = 0 from rfl), addEater_e x15 hk7, Option.bind_some, xs]
    refine ⟨0, _, _, rfl, rfl, ((F2.trans e3.f).trans (fe_a _ (j := 9) (by decide) _)).trans ((fe_a _ (j := 10) (by decide) _).trans (fe_i _ (j := 15) (by decide) _)), M2.trans e4.f, Or.inl ⟨rfl, p4, by omega, t5, t6, t8, t2, ?_, ?_, ?_⟩⟩
    · show τ4.1 10 = -1
      rw [t3, r6, q6]; exact g10
    · rw [t4]; show ν2.1 6 = -1; rw [r7]; show ν1.1 6 = -1; rw [q7]; exact g6
    · refine ⟨?_, ?_, ?_, ?_, ?_, ?_, ?_, ?_⟩
      · show τ4.1 11 = ν4.2 7 0 ∧ 0 ≤ τ4.1 11 ∧ τ4.1 11 ≤ 3
        rw [xn 11 (by decide), ym 7 (by decide) (by decide)]; exact D1
      · show τ4.1 12 = ν4.2 7 1 ∧ 0 ≤ τ4.1 12 ∧ τ4.1 12 ≤ 99
        rw [xn 12 (by decide), ym 7 (by decide) (by decide)]; exact D2
      · show τ4.1 13 = ν4.2 7 2 ∧ 0 ≤ τ4.1 13 ∧ τ4.1 13 ≤ 30
        rw [xn 13 (by decide), ym 7 (by decide) (by decide)]; exact D3
      · show τ4.1 14 = ν4.1 10 ∧ 0 ≤ τ4.1 14 ∧ τ4.1 14 ≤ 7
        rw [xn 14 (by decide), y10]; exact D4
      · show ((k + 1 : Nat) : Int) = ν4.1 11 ∧ 0 ≤ ((k + 1 : Nat) : Int) ∧ ((k + 1 : Nat) : Int) ≤ 5
        rw [y11]; omega
      · intro q
        have q : τ4.1 11 = 0 := q
        rw [xn 11 (by decide)] at q
        exact absurd q h11
      · intro e he
        have he : (e : Int) < τ4.1 14 := he
        rw [xn 14 (by decide)] at he
        show (τ4.2 6 e = ν4.2 8 e ∧ 0 ≤ τ4.2 6 e ∧ τ4.2 6 e ≤ 30) ∧ (τ4.2 7 e = ν4.2 9 e ∧ 1 ≤ τ4.2 7 e ∧ τ4.2 7 e ≤ 5) ∧ τ4.2 8 e = 1
        rw [xs, ym 8 (by decide) (by decide), ym 9 (by decide) (by decide)]
        exact D7 e he
      · intro i hi
        have hi : (i : Int) < ((k + 1 : Nat) : Int) := hi
        show (va_up (σ.2 9) k v1 i = ν4.2 10 i ∧ 0 ≤ va_up (σ.2 9) k v1 i ∧ va_up (σ.2 9) k v1 i ≤ 99) ∧ (va_up (σ.2 10) k v2 i = ν4.2 11 i ∧ 0 ≤ va_up (σ.2 10) k v2 i ∧ va_up (σ.2 10) k v2 i ≤ 99)
        rw [y8, y9, vu, vu, vu, vu]
        by_cases hek : i = k
        · rw [if_pos hek, if_pos hek, if_pos hek, if_pos hek]; omega
        · rw [if_neg hek, if_neg hek, if_neg hek, if_neg hek]; exact D8 i (by omega)
  · obtain ⟨z1, z2⟩ := hb (τ := τ4) (f := f4) (by omega) t2
    rw [gd_t z2, if_neg z1]
    exact ⟨f4, _, _, rfl, rfl, F2.trans e3.f, M2.trans e4.f, Or.inr ⟨by omega, t2, t3, t4, t5⟩⟩
theorem skip_here (h : TX_ σ μ c X) (hp : p < c) (h8 : σ.1 8 = (p : Int)) (h7 : μ.1 7 = (p : Int)) (hx : X p ≠ 32) : pX9_skipBlanks σ = some (X p, σ) ∧ pX11_here μ = some (X p, μ) := by
  obtain ⟨⟨a1, a2, a3⟩, a4⟩ := id h
  have q := a4 p hp
  unfold pX9_skipBlanks pX11_here
  rw [show FU = 99999 + 1 from rfl, pX9_skipBlanks_0, pX11_here_0, h8, h7, a1, a2, gd_t (show rg (p : Int) ∧ rg (c : Int) by omega), gd_t (show rg (p : Int) ∧ rg (c : Int) by omega), if_neg (show ¬ (c : Int) ≤ (p : Int) by omega), if_neg (show ¬ (c : Int) ≤ (p : Int) by omega), letter_in h hp, Option.bind_some, gd_t (show rg (X p) by omega), gd_t (show 0 ≤ (p : Int) ∧ (p : Int) < 240 by omega), Int.toNat_natCast, q.2.1, gd_t (show rg (X p) by omega), if_neg hx, if_neg hx]
  unfold pX9_skipBlanks_37 pX11_here_38
  rw [h8, h7, a2, letter_in h hp, gd_t (show rg (p : Int) ∧ rg (c : Int) by omega), if_neg (show ¬ (c : Int) ≤ (p : Int) by omega), gd_t (show 0 ≤ (p : Int) ∧ (p : Int) < 240 by omega), Int.toNat_natCast, q.2.1]
  exact ⟨rfl, rfl⟩
theorem fail_cl (hg : Go σ μ c p) (hc : c ≤ 240) {f : Int} (hf : 1 ≤ f ∧ f ≤ 3) : ClQ σ μ c p (Option.bind (pX9_find σ f (σ.1 8)) fun s => some s) (Option.bind (pX11_fails μ f (μ.1 7)) fun u => nm u.1 fun r => nm u.2 fun s => some (r, s)) := by
  obtain ⟨g8, g7, g1, g9, g10, g6, gD⟩ := id hg
  refine ⟨f, sI (sI σ 9 f) 10 (σ.1 8), sI μ 6 (μ.1 7), rfl, rfl, (ne_f σ f _).f, fm_i μ (j := 6) (by decide) _, Or.inr ⟨hf, rfl, ?_, ?_, ?_⟩⟩
  · show σ.1 8 = μ.1 7
    omega
  · show 0 ≤ σ.1 8
    omega
  · show σ.1 8 ≤ 240
    omega
theorem clause_q (h : TX_ σ μ c X) (hg : Go σ μ c p) (hp : p < c) (hx : X p ≠ 32) : ClQ σ μ c p (pX9_readClause_c9 σ) (pX11_takeClause μ) := by
  obtain ⟨g8, g7, g1, g9, g10, g6, gD⟩ := id hg
  obtain ⟨D1, D2, D3, D4, D5, D6, D7, D8⟩ := id gD
  have hX := h.2 p hp
  have hc := h.1.2.2
  obtain ⟨s1, s2⟩ := skip_here h hp g8 g7 hx
  have same : ∀ x : Option St, (Option.bind x fun s => some s) = x := fun x => by cases x <;> rfl
  unfold pX9_readClause_c9 pX9_readClause_c9_0 pX11_takeClause pX11_takeClause_0 pX9_readClause_c9_30 pX11_takeClause_36 pX11_takeClause_64 pX11_takeClause_54 pX11_takeClause_120 pX8_isLaid_c9 pX8_isLaid_c9_0
  rw [s1, s2, Option.bind_some, Option.bind_some]
  simp only [nm_v]
  have rx : rg (X p) := by omega
  rw [← D1.1]
  by_cases hP : X p = 112
  · by_cases hl : σ.1 11 = 0
    · have := pan_q h hg hp hl
      simp (disch := omega) only [gd_t, if_pos, if_neg, same]
      exact this
    · have q := fail_cl hg hc (f := 3) (by decide)
      have e : pX9_readPan_c9 σ = Option.bind (pX9_find σ 3 (σ.1 8)) fun s => some s := by
        unfold pX9_readPan_c9 pX9_readPan_c9_0 pX8_isLaid_c9 pX8_isLaid_c9_0
        simp (disch := omega) only [gd_t, if_neg, Option.bind_some]
      simp (disch := omega) only [gd_t, if_pos, if_neg, same, e]
      simp only [same] at q
      exact q
  · by_cases hl : σ.1 11 = 0
    · have q := fail_cl hg hc (f := 1) (by decide)
      simp only [same] at q
      by_cases hE : X p = 101
      · simp (disch := omega) only [gd_t, if_pos, if_neg, same, Option.bind_some]
        exact q
      · by_cases hm : X p = 109
        · simp (disch := omega) only [gd_t, if_pos, if_neg, same, Option.bind_some]
          exact q
        · simp (disch := omega) only [gd_t, if_pos, if_neg, same, Option.bind_some]
          exact q
    · by_cases hE : X p = 101
      · obtain ⟨k, hk⟩ := Int.eq_ofNat_of_zero_le D4.2.1
        by_cases hk7 : k < 7
        · have := egg_cl h hg hp hl hk hk7
          simp (disch := omega) only [gd_t, if_pos, if_neg, same, Option.bind_some]
          exact this
        · have q := fail_cl hg hc (f := 3) (by decide)
          simp only [same] at q
          have e : pX9_readEgg_c9 σ = pX9_find σ 3 (σ.1 8) := by
            unfold pX9_readEgg_c9 pX9_readEgg_c9_0
            simp (disch := omega) only [gd_t, if_neg, same]
          simp (disch := omega) only [gd_t, if_pos, if_neg, same, e, Option.bind_some]
          exact q
      · by_cases hm : X p = 109
        · obtain ⟨k, hk⟩ := Int.eq_ofNat_of_zero_le D5.2.1
          by_cases hk7 : k < 5
          · have := eater_cl h hg hp hl hk hk7
            simp (disch := omega) only [gd_t, if_pos, if_neg, same, Option.bind_some]
            exact this
          · have q := fail_cl hg hc (f := 3) (by decide)
            simp only [same] at q
            have e : pX9_readEater_c9 σ = pX9_find σ 3 (σ.1 8) := by
              unfold pX9_readEater_c9 pX9_readEater_c9_0
              simp (disch := omega) only [gd_t, if_neg, same]
            simp (disch := omega) only [gd_t, if_pos, if_neg, same, e, Option.bind_some]
            exact q
        · have q := fail_cl hg hc (f := 1) (by decide)
          simp only [same] at q
          simp (disch := omega) only [gd_t, if_pos, if_neg, same, Option.bind_some]
          exact q
end
