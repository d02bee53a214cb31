theorem sA_comm (σ : St) {j k : Nat} (h : j ≠ k) (f g : Nat → Int) : sA (sA σ j f) k g = sA (sA σ k g) j f := by
  show (σ.1, va_up (va_up σ.2 j f) k g) = (σ.1, va_up (va_up σ.2 k g) j f)
  congr 1
  funext i
  show (if i = k then g else if i = j then f else σ.2 i) = (if i = j then f else if i = k then g else σ.2 i)
  by_cases h1 : i = k
  · rw [if_pos h1, if_neg (by omega), if_pos h1]
  · rw [if_neg h1, if_neg h1]
theorem read_l (c : Nat) (X : Nat → Int) : ∀ (d : Nat) (σ μ : St) (p i fu : Nat), TX_ σ μ c X → Go σ μ c p → c - p ≤ d → i ≤ p → ∃ (f : Int) (τ ν : St), pX9_readInto_c9_21 (fu + d + 1) σ (i : Int) = some (f, τ) ∧ pX11_table_42 (fu + d + 1) μ 0 = pX11_table_61 ν f ∧ FE σ τ ∧ FM μ ν ∧ ((f = 0 ∧ Dr τ ν ∧ τ.1 10 = -1 ∧ ν.1 6 = -1) ∨ Bad τ ν f) := by
  intro d
  induction d with
  | zero =>
    intro σ μ p i fu h hg hd hi
    obtain ⟨g8, g7, g1, g9, g10, g6, gD⟩ := id hg
    obtain ⟨⟨a1, a2, a3⟩, a4⟩ := id h
    obtain ⟨p', r, e1, e2, e3, e4⟩ := skip_q h g1 g8 g7
    have hr : r = -1 := by rcases e4 with ⟨q1, q2⟩ | ⟨q1, q2, q3, q4, q5⟩ <;> omega
    have eM : pX11_table_42 (fu + 0 + 1) μ 0 = pX11_table_61 (sI μ 7 (p' : Int)) 0 := by
      rw [pX11_table_42, gd_t (show rg (0 : Int) by decide), if_pos (show (0 : Int) = 0 from rfl), e2, Option.bind_some]
      simp only [nm_v]
      rw [hr, gd_t (by decide), if_pos (by decide)]
    have nD := gD.n (ne_i σ (p' : Int)) (nm_i μ (j := 7) (by decide) (p' : Int))
    by_cases h240 : 240 ≤ i
    · refine ⟨0, σ, _, ?_, eM, FE.rf _, fm_i μ (j := 7) (by decide) _, Or.inl ⟨rfl, gD, g10, g6⟩⟩
      rw [pX9_readInto_c9_21, gd_t (by omega), if_pos (by omega)]
      unfold pX9_readInto_c9_54
      rw [g9]
    · refine ⟨0, sI σ 8 (p' : Int), _, ?_, eM, fe_i σ (j := 8) (by decide) _, fm_i μ (j := 7) (by decide) _, Or.inl ⟨rfl, nD, g10, g6⟩⟩
      rw [pX9_readInto_c9_21, gd_t (by omega), if_neg (by omega), g9, gd_t (by decide), if_pos rfl, e1, Option.bind_some]
      simp only [nm_v]
      rw [hr, gd_t (by decide), if_pos rfl]
      unfold pX9_readInto_c9_54
      rw [show (sI σ 8 (p' : Int)).1 9 = 0 from g9]
  | succ d ih =>
    intro σ μ p i fu h hg hd hi
    obtain ⟨g8, g7, g1, g9, g10, g6, gD⟩ := id hg
    obtain ⟨⟨a1, a2, a3⟩, a4⟩ := id h
    obtain ⟨p', r, e1, e2, e3, e4⟩ := skip_q h g1 g8 g7
    have nD := gD.n (ne_i σ (p' : Int)) (nm_i μ (j := 7) (by decide) (p' : Int))
    rcases e4 with ⟨q1, hr⟩ | ⟨q1, q2, q3, q4, q5⟩
    · have eM : pX11_table_42 (fu + (d + 1) + 1) μ 0 = pX11_table_61 (sI μ 7 (p' : Int)) 0 := by
        rw [pX11_table_42, gd_t (show rg (0 : Int) by decide), if_pos (show (0 : Int) = 0 from rfl), e2, Option.bind_some]
        simp only [nm_v]
        rw [hr, gd_t (by decide), if_pos (by decide)]
      by_cases h240 : 240 ≤ i
      · refine ⟨0, σ, _, ?_, eM, FE.rf _, fm_i μ (j := 7) (by decide) _, Or.inl ⟨rfl, gD, g10, g6⟩⟩
        rw [pX9_readInto_c9_21, gd_t (by omega), if_pos (by omega)]
        unfold pX9_readInto_c9_54
        rw [g9]
      · refine ⟨0, sI σ 8 (p' : Int), _, ?_, eM, fe_i σ (j := 8) (by decide) _, fm_i μ (j := 7) (by decide) _, Or.inl ⟨rfl, nD, g10, g6⟩⟩
        rw [pX9_readInto_c9_21, gd_t (by omega), if_neg (by omega), g9, gd_t (by decide), if_pos rfl, e1, Option.bind_some]
        simp only [nm_v]
        rw [hr, gd_t (by decide), if_pos rfl]
        unfold pX9_readInto_c9_54
        rw [show (sI σ 8 (p' : Int)).1 9 = 0 from g9]
    · have F0 := fe_i σ (j := 8) (by decide) (p' : Int)
      have M0 := fm_i μ (j := 7) (by decide) (p' : Int)
      have h2 : TX_ (sI σ 8 (p' : Int)) (sI μ 7 (p' : Int)) c X := h
      have hg2 : Go (sI σ 8 (p' : Int)) (sI μ 7 (p' : Int)) c p' := ⟨rfl, rfl, by omega, g9, g10, g6, nD⟩
      obtain ⟨f, τ, ν, c1, c2, c3, c4, c5⟩ := clause_q h2 hg2 q1 (by omega)
      have eC : pX9_readInto_c9_21 (fu + (d + 1) + 1) σ (i : Int) = pX9_readInto_c9_21 (fu + d + 1) τ ((i + 1 : Nat) : Int) := by
        rw [show fu + (d + 1) + 1 = (fu + d + 1) + 1 from by omega, pX9_readInto_c9_21, gd_t (by omega), if_neg (by omega), g9, gd_t (by decide), if_pos rfl, e1, Option.bind_some]
        simp only [nm_v]
        rw [gd_t (by omega), if_neg (by omega), c1, Option.bind_some, cast1]
      have eM : pX11_table_42 (fu + (d + 1) + 1) μ 0 = pX11_table_42 (fu + d + 1) ν f := by
        rw [show fu + (d + 1) + 1 = (fu + d + 1) + 1 from by omega, pX11_table_42, gd_t (show rg (0 : Int) by decide), if_pos (show (0 : Int) = 0 from rfl), e2, Option.bind_some]
        simp only [nm_v]
        rw [gd_t (by omega), if_neg (by omega), c2, Option.bind_some]
      rcases c5 with ⟨rfl, p2, hp2, hg3⟩ | hbad
      · obtain ⟨f, τ', ν', b1, b2, b3, b4, b5⟩ := ih τ ν p2 (i + 1) fu (h2.ff c3 c4) hg3 (by omega) (by omega)
        exact ⟨f, τ', ν', by rw [eC, b1], by rw [eM, b2], (F0.trans c3).trans b3, (M0.trans c4).trans b4, b5⟩
      · obtain ⟨b1, b2, b3, b4, b5⟩ := id hbad
        refine ⟨f, τ, ν, ?_, ?_, F0.trans c3, M0.trans c4, Or.inr hbad⟩
        · rw [eC, pX9_readInto_c9_21, gd_t (by omega)]
          unfold pX9_readInto_c9_54
          by_cases h240 : 240 ≤ ((i + 1 : Nat) : Int)
          · rw [if_pos h240, b2]
          · rw [if_neg h240, gd_t (by omega), if_neg (by omega), b2]
        · rw [eM, pX11_table_42, gd_t (by omega), if_neg (by omega)]
theorem Rel.fr {σ μ τ ν : St} (h : Rel σ μ) (h1 : FE σ τ) (h2 : FM μ ν) : RT τ ν ∧ RN τ ν ∧ RP τ ν ∧ RI τ ν ∧ RC τ ν ∧ RB τ ν ∧ (τ.1 1 = ν.1 4 ∧ 0 ≤ τ.1 1 ∧ τ.1 1 ≤ 2147483647) := by
  obtain ⟨hT, hX, hF, hN, hP, hI, hC, hB⟩ := h
  refine ⟨?_, ?_, ?_, ?_, ?_, ?_, ?_⟩
  · unfold RT
    rw [h1.1 2 (by decide), h1.1 4 (by decide), h1.1 5 (by decide), h1.1 6 (by decide), h1.2 0 (by decide), h1.2 1 (by decide), h1.2 2 (by decide), h1.2 3 (by decide), h1.2 4 (by decide), h2.1 0 (by decide), h2.1 1 (by decide), h2.1 2 (by decide), h2.1 3 (by decide), h2.2 0 (by decide), h2.2 1 (by decide), h2.2 2 (by decide), h2.2 3 (by decide), h2.2 4 (by decide)]
    exact hT
  · unfold RN
    rw [h1.1 5 (by decide), h1.1 16 (by decide), h1.1 17 (by decide), h1.1 18 (by decide), h1.1 19 (by decide), h1.1 20 (by decide), h1.1 21 (by decide), h1.2 11 (by decide), h1.2 12 (by decide), h2.2 5 (by decide)]
    exact hN
  · unfold RP
    rw [h1.1 5 (by decide), h1.1 22 (by decide), h1.1 23 (by decide), h1.2 13 (by decide), h2.1 12 (by decide), h2.2 12 (by decide)]
    exact hP
  · unfold RI
    rw [h1.1 5 (by decide), h1.2 14 (by decide), h1.2 15 (by decide), h1.2 16 (by decide), h2.2 23 (by decide), h2.2 24 (by decide)]
    exact hI
  · unfold RC
    rw [h1.1 24 (by decide), h1.2 17 (by decide), h1.2 18 (by decide), h2.1 13 (by decide), h2.2 18 (by decide), h2.2 19 (by decide)]
    exact hC
  · unfold RB
    rw [h1.1 5 (by decide), h1.1 25 (by decide), h1.2 19 (by decide), h1.2 20 (by decide), h2.1 14 (by decide), h2.2 21 (by decide), h2.2 22 (by decide)]
    exact hB
  · rw [h1.1 1 (by decide), h2.1 4 (by decide)]
    exact hF.2
/-- the class begins anew -/
theorem begin_e (τ : St) : ∃ s b : Nat → Int, pX4_begin τ = some (sI (sI (sI (sI (sI (sI (sA (sA τ 11 s) 12 b) 16 (-1)) 17 0) 18 (τ.1 3)) 19 0) 20 0) 21 0) ∧ ∀ j, j < 7 → s j = 0 ∧ b j = 0 := by
  obtain ⟨⟨s, b⟩, m, i1, e⟩ := lp_exA (fun m i (q : (Nat → Int) × (Nat → Int)) => pX4_begin_2 m (sA (sA τ 11 q.1) 12 q.2) i) (fun k q => ∀ j, j < k → q.1 j = 0 ∧ q.2 j = 0) 0 7 (by decide) (by decide) (τ.2 11, τ.2 12) (fun j h => by omega) (fun m k q hk1 hk hI => by
    refine ⟨(va_up q.1 k 0, va_up q.2 k 0), fun j hj => ?_, ?_⟩
    · dsimp only
      rw [vu, vu]
      by_cases h : j = k
      · rw [if_pos h, if_pos h]; exact ⟨rfl, rfl⟩
      · rw [if_neg h, if_neg h]; exact hI j (by omega)
    · rw [pX4_begin_2, gd_t (by omega), if_neg (by omega), gd_t (by omega), Int.toNat_natCast, nm_v, gd_t (by omega), nm_v, cast1]
      have e1 : (sA (sA τ 11 q.1) 12 q.2).2 11 = q.1 := rfl
      have e2 : sA (sA (sA τ 11 q.1) 12 q.2) 11 (va_up q.1 k 0) = sA (sA τ 11 (va_up q.1 k 0)) 12 q.2 := by rw [sA_comm τ (by decide) q.1 q.2, sA_sA, sA_comm τ (by decide)]
      rw [e1, e2, sA_sA]
      rfl)
  refine ⟨s, b, ?_, i1⟩
  rw [sA_same, sA_same] at e
  unfold pX4_begin pX4_begin_0
  refine Eq.trans e ?_
  rw [pX4_begin_2, gd_t (by decide), if_pos (by decide)]
  simp only [nm]
  rfl
theorem forget_i (τ : St) : ∃ g : Nat → Int, pX3_forget τ = some (sA τ 16 g) ∧ ∀ j, j < 2 → g j = 0 := by
  obtain ⟨g, m, i1, e⟩ := lp_exA (fun m i (q : Nat → Int) => pX3_forget_2 m (sA τ 16 q) i) (fun k q => ∀ j, j < k → q j = 0) 0 2 (by decide) (by decide) (τ.2 16) (fun j h => by omega) (fun m k q hk1 hk hI => by
    refine ⟨va_up q k 0, fun j hj => ?_, ?_⟩
    · rw [vu]
      by_cases h : j = k
      · rw [if_pos h]
      · rw [if_neg h]; exact hI j (by omega)
    · rw [pX3_forget_2, gd_t (by omega), if_neg (by omega), gd_t (by omega), Int.toNat_natCast, nm_v, sA_sA, cast1]
      rfl)
  refine ⟨g, ?_, i1⟩
  rw [sA_same] at e
  unfold pX3_forget pX3_forget_0
  refine Eq.trans e ?_
  rw [pX3_forget_2, gd_t (by decide), if_pos (by decide)]
