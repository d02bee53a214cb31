section
variable {σ μ : St}
theorem whole_l {q : Int} (hq : 0 ≤ q ∧ q ≤ 100) {N : Nat} (hN : N ≤ 60) : ∀ (d k m : Nat) (y : Int), k + d = N → 0 ≤ y ∧ y ≤ 1000000000 → ∃ r, pX10_whole_30 σ (m + d + 1) (N : Int) q y (k : Int) = some r ∧ pX11_whole_34 μ (m + d + 1) (N : Int) q y (k : Int) = some r := by
  intro d
  induction d with
  | zero =>
    intro k m y hk hy
    obtain rfl : k = N := by omega
    exact ⟨y, by rw [pX10_whole_30, gd_t (by omega), if_pos (by omega)], by rw [pX11_whole_34, gd_t (by omega), if_pos (by omega)]⟩
  | succ d ih =>
    intro k m y hk hy
    have h1 : 0 ≤ y * (100 - q) := Int.mul_nonneg hy.1 (by omega)
    have h2 : y * (100 - q) ≤ 1000000000 * 100 := Int.mul_le_mul hy.2 (by omega) (by omega) (by omega)
    rw [show m + (d + 1) + 1 = (m + d + 1) + 1 from by omega, pX10_whole_30, pX11_whole_34, gd_t (by omega), gd_t (by omega), if_neg (by omega), if_neg (by omega), gd_t (by omega), gd_t (by omega), gd_t (by omega), gd_t (by omega), cast1]
    exact ih (k + 1) m _ (by omega) (by omega)
theorem whole_q {x y : Int} (hx : rg x) (hy : rg y) : AlR (pX10_whole σ x y) (pX11_whole μ x y) := by
  unfold AlR pX10_whole pX10_whole_0 pX11_whole pX11_whole_0
  rw [within_e hx (by decide) (by decide), within_e hy (by decide) (by decide), in_e hx (by decide) (by decide), in_e hy (by decide) (by decide)]
  by_cases h1 : 0 ≤ x ∧ x ≤ 60
  · rw [if_pos h1]
    by_cases h2 : 0 ≤ y ∧ y ≤ 100
    · rw [if_pos h2]
      simp (disch := omega) only [gd_t, Option.bind_some, if_neg]
      obtain ⟨N, rfl⟩ := Int.eq_ofNat_of_zero_le h1.1
      have := whole_l (σ := σ) (μ := μ) h2 (N := N) (by omega) N 0 (99999 - N) 1000000000 (by omega) (by decide)
      rw [show 99999 - N + N + 1 = FU from by unfold FU; omega] at this
      exact this
    · rw [if_neg h2]
      exact ⟨-1000000002, by simp (disch := omega) only [gd_t, Option.bind_some, if_neg, ite_true], by simp (disch := omega) only [gd_t, Option.bind_some, if_neg, ite_true]⟩
  · rw [if_neg h1]
    exact ⟨-1000000002, by simp (disch := omega) only [gd_t, Option.bind_some, if_neg, ite_true], by simp (disch := omega) only [gd_t, Option.bind_some, if_neg, ite_true]⟩
theorem seed_q (h : Rel σ μ) {x : Int} (hx : rg x) : Al (pX10_seed σ x) (pX11_seed μ x) := by
  obtain ⟨hT, hX, ⟨f1, f2⟩, hN, hP, hI, hC, hB⟩ := id h
  unfold Al pX10_seed pX10_seed_0 pX11_seed pX11_seed_0
  rw [gd_t hx, gd_t hx]
  by_cases h0 : 0 ≤ x
  · rw [if_pos h0, if_pos h0]
    refine ⟨σ.1 1, sI σ 1 x, sI μ 4 x, rfl, by rw [f2.1]; rfl, hT, hX, ⟨f1, ?_⟩, hN, hP, hI, hC, hB⟩
    exact ⟨rfl, h0, hx.2⟩
  · rw [if_neg h0, if_neg h0]
    exact ⟨_, _, _, rfl, rfl, h⟩
theorem tear_q (h : Rel σ μ) : Al (pX10_tear σ) (pX11_tear μ) := by
  obtain ⟨hT, hX, hF, hN, hP, hI, ⟨c1, c2, c3⟩, ⟨b1, b2, b3⟩⟩ := id h
  refine ⟨σ.1 24 + σ.1 25, sI (sI σ 24 0) 25 0, sI (sI μ 13 0) 14 0, rfl, by rw [c1, b1]; rfl, hT, hX, hF, hN, hP, hI, ⟨rfl, by show (0 : Int) ≤ 0 ∧ (0 : Int) ≤ 6; decide, fun i hi => ?_⟩, ⟨rfl, by show (0 : Int) ≤ 0 ∧ (0 : Int) ≤ 15; decide, fun i hi => ?_⟩⟩
  · have hi : (i : Int) < 0 := hi
    omega
  · have hi : (i : Int) < 0 := hi
    omega
theorem see_q (h : Rel σ μ) {x y : Int} (hx : rg x) (hy : rg y) : Al (pX10_see σ x y) (pX11_see μ x y) := by
  obtain ⟨hT, hX, hF, hN, hP, hI, ⟨c1, c2, c3⟩, hB⟩ := id h
  unfold Al pX10_see pX10_see_0 pX11_see pX11_see_0 pX2_add pX2_add_0
  rw [within_e hx (by decide) (by decide), within_e hy (by decide) (by decide), in_e hx (by decide) (by decide), in_e hy (by decide) (by decide)]
  by_cases h1 : 1 ≤ x ∧ x ≤ 9
  · rw [if_pos h1]
    by_cases h2 : 0 ≤ y ∧ y ≤ 30
    · rw [if_pos h2]
      by_cases h3 : σ.1 24 = 6
      · refine ⟨-1000000004, σ, μ, ?_, ?_, h⟩
        · simp (disch := omega) only [gd_t, Option.bind_some, if_neg, if_pos, nm, ite_true]
        · simp (disch := omega) only [gd_t, Option.bind_some, if_neg, if_pos, nm, ite_true]
      · obtain ⟨c, hc⟩ := Int.eq_ofNat_of_zero_le c2.1
        refine ⟨σ.1 24 + 1, sI (sA (sA σ 17 (va_up (σ.2 17) c x)) 18 (va_up (σ.2 18) c y)) 24 (σ.1 24 + 1), sI (sA (sA μ 18 (va_up (μ.2 18) c x)) 19 (va_up (μ.2 19) c y)) 13 (μ.1 13 + 1), ?_, ?_, hT, hX, hF, hN, hP, hI, ⟨?_, ?_, ?_⟩, hB⟩
        · simp (disch := omega) only [gd_t, Option.bind_some, if_neg, if_pos, nm, sA_1, sA_2, sI_1, hc, Int.toNat_natCast, ite_true]
        · rw [← c1]
          simp (disch := omega) only [gd_t, Option.bind_some, if_neg, if_pos, nm, sA_1, sA_2, sI_1, ← c1, hc, Int.toNat_natCast, ite_true]
        · show σ.1 24 + 1 = μ.1 13 + 1
          omega
        · show 0 ≤ σ.1 24 + 1 ∧ σ.1 24 + 1 ≤ 6
          omega
        · intro i hi
          have hi : (i : Int) < σ.1 24 + 1 := hi
          show (va_up (σ.2 17) c x i = va_up (μ.2 18) c x i ∧ 1 ≤ va_up (σ.2 17) c x i ∧ va_up (σ.2 17) c x i ≤ 9) ∧ (va_up (σ.2 18) c y i = va_up (μ.2 19) c y i ∧ 0 ≤ va_up (σ.2 18) c y i ∧ va_up (σ.2 18) c y i ≤ 30)
          rw [vu, vu, vu, vu]
          by_cases hj : i = c
          · rw [if_pos hj, if_pos hj, if_pos hj, if_pos hj]; omega
          · rw [if_neg hj, if_neg hj, if_neg hj, if_neg hj]; exact c3 i (by omega)
    · rw [if_neg h2]
      exact ⟨-1000000002, σ, μ, by simp (disch := omega) only [gd_t, Option.bind_some, if_neg, ite_true], by simp (disch := omega) only [gd_t, Option.bind_some, if_neg, ite_true], h⟩
  · rw [if_neg h1]
    exact ⟨-1000000002, σ, μ, by simp (disch := omega) only [gd_t, Option.bind_some, if_neg, ite_true], by simp (disch := omega) only [gd_t, Option.bind_some, if_neg, ite_true], h⟩
theorem write_q (h : Rel σ μ) {x y : Int} (hx : rg x) (hy : rg y) : Al (pX10_write σ x y) (pX11_write μ x y) := by
  obtain ⟨n, hV, hE, hM⟩ := h.vw
  have h7 := hV.1
  have hn := hE.1
  obtain ⟨hT, hX, hF, hN, hP, hI, hC, ⟨b1, b2, b3⟩⟩ := id h
  unfold Al pX10_write pX10_write_0 pX11_write pX11_write_0 pX1_add pX1_add_0
  rw [hasEgg_e hE.1 h7 hx, isEgg_m hM.1 h7 hx, within_e hy (by decide) (by decide), in_e hy (by decide) (by decide)]
  by_cases h1 : 0 ≤ x ∧ x < (n : Int)
  · rw [if_pos h1]
    by_cases h2 : 0 ≤ y ∧ y ≤ 5
    · rw [if_pos h2]
      by_cases h3 : σ.1 25 = 15
      · refine ⟨-1000000004, σ, μ, ?_, ?_, h⟩
        · simp (disch := omega) only [gd_t, Option.bind_some, if_neg, if_pos, nm, ite_true]
        · simp (disch := omega) only [gd_t, Option.bind_some, if_neg, if_pos, nm, ite_true]
      · obtain ⟨c, hc⟩ := Int.eq_ofNat_of_zero_le b2.1
        refine ⟨σ.1 25 + 1, sI (sA (sA σ 19 (va_up (σ.2 19) c x)) 20 (va_up (σ.2 20) c y)) 25 (σ.1 25 + 1), sI (sA (sA μ 21 (va_up (μ.2 21) c x)) 22 (va_up (μ.2 22) c y)) 14 (μ.1 14 + 1), ?_, ?_, hT, hX, hF, hN, hP, hI, hC, ⟨?_, ?_, ?_⟩⟩
        · simp (disch := omega) only [gd_t, Option.bind_some, if_neg, if_pos, nm, sA_1, sA_2, sI_1, hc, Int.toNat_natCast, ite_true]
        · rw [← b1]
          simp (disch := omega) only [gd_t, Option.bind_some, if_neg, if_pos, nm, sA_1, sA_2, sI_1, ← b1, hc, Int.toNat_natCast, ite_true]
        · show σ.1 25 + 1 = μ.1 14 + 1
          omega
        · show 0 ≤ σ.1 25 + 1 ∧ σ.1 25 + 1 ≤ 15
          omega
        · intro i hi
          have hi : (i : Int) < σ.1 25 + 1 := hi
          show (va_up (σ.2 19) c x i = va_up (μ.2 21) c x i ∧ 0 ≤ va_up (σ.2 19) c x i ∧ va_up (σ.2 19) c x i < σ.1 5) ∧ (va_up (σ.2 20) c y i = va_up (μ.2 22) c y i ∧ 0 ≤ va_up (σ.2 20) c y i ∧ va_up (σ.2 20) c y i ≤ 5)
          rw [vu, vu, vu, vu]
          by_cases hj : i = c
          · rw [if_pos hj, if_pos hj, if_pos hj, if_pos hj]; omega
          · rw [if_neg hj, if_neg hj, if_neg hj, if_neg hj]; exact b3 i (by omega)
    · rw [if_neg h2]
      exact ⟨-1000000002, σ, μ, by simp (disch := omega) only [gd_t, Option.bind_some, if_neg, ite_true], by simp (disch := omega) only [gd_t, Option.bind_some, if_neg, ite_true], h⟩
  · rw [if_neg h1]
    exact ⟨-1000000001, σ, μ, by simp (disch := omega) only [gd_t, Option.bind_some, if_neg, ite_true], by simp (disch := omega) only [gd_t, Option.bind_some, if_neg, ite_true], h⟩
theorem judge_l (h : Rel σ μ) {N : Nat} (hN : σ.1 25 = (N : Int)) : ∀ (d k m : Nat), k + d = N → ∃ r, pX1_firstWrong_2 σ (m + d + 1) (k : Int) = some r ∧ pX11_judge_2 μ (m + d + 1) (k : Int) = some r := by
  obtain ⟨n, hV, hE, hM⟩ := h.vw
  have h7 := hV.1
  have hn := hE.1
  obtain ⟨hT, hX, hF, hNn, hP, hI, hC, ⟨b1, b2, b3⟩⟩ := id h
  intro d
  induction d with
  | zero =>
    intro k m hk
    obtain rfl : k = N := by omega
    exact ⟨-1, by rw [pX1_firstWrong_2, gd_t (by omega), if_pos (by omega)], by rw [pX11_judge_2, gd_t (by omega), if_pos (by omega)]⟩
  | succ d ih =>
    intro k m hk
    have q := b3 k (by omega)
    obtain ⟨e, he⟩ := Int.eq_ofNat_of_zero_le q.1.2.1
    have hb := hV.2 e (by omega)
    rw [show m + (d + 1) + 1 = (m + d + 1) + 1 from by omega, pX1_firstWrong_2, pX11_judge_2, Int.toNat_natCast, ← q.1.1, ← q.2.1, he, Int.toNat_natCast, (hM.2 e (by omega)).2.2.1, stateOf_e hV hE (by omega)]
    simp (disch := omega) only [gd_t, if_neg, Option.bind_some]
    by_cases hc : σ.2 11 e = σ.2 20 k
    · rw [if_pos hc, if_pos hc, cast1]
      exact ih (k + 1) m (by omega)
    · rw [if_neg hc, if_neg hc]
      exact ⟨_, rfl, rfl⟩
theorem judge_q (h : Rel σ μ) : AlR (pX10_judge σ) (pX11_judge μ) := by
  obtain ⟨-, -, -, -, -, -, -, ⟨b1, b2, b3⟩⟩ := id h
  obtain ⟨N, hN⟩ := Int.eq_ofNat_of_zero_le b2.1
  have := judge_l h hN N 0 (99999 - N) (by omega)
  rw [show 99999 - N + N + 1 = FU from by unfold FU; omega] at this
  obtain ⟨r, e1, e2⟩ := this
  refine ⟨r, ?_, e2⟩
  unfold pX10_judge pX10_judge_0 pX1_firstWrong pX1_firstWrong_0
  rw [show (0 : Int) = ((0 : Nat) : Int) from rfl, e1]
  rfl
theorem needs_l {n : Nat} {a z st bo : Nat → Int} (hV : Vw n a z st bo) (hE : VE σ n a z st bo) (hM : VM μ n a z st bo) (h4 : σ.1 4 = μ.1 1) {L : Nat} (hL : σ.1 4 = (L : Int)) (hL2 : L ≤ 30) {e : Nat} (he : e < n) {y : Int} (hy : rg y) : ∀ (d k m : Nat), k + d = L + 1 → ∃ r, pX10_needs_29 σ (m + d + 1) (e : Int) y (k : Int) = some r ∧ pX11_needs_28 μ (m + d + 1) (e : Int) y (k : Int) = some r := by
  intro d
  induction d with
  | zero =>
    intro k m hk
    exact ⟨-1, by rw [pX10_needs_29, gd_t (by omega), if_pos (by omega)], by rw [pX11_needs_28, gd_t (by omega), if_pos (by omega)]⟩
  | succ d ih =>
    intro k m hk
    have hr := rv_b (a := a e) (b := (k : Int)) (hV.2 e he).2.1
    rw [show m + (d + 1) + 1 = (m + d + 1) + 1 from by omega, pX10_needs_29, pX11_needs_28, reignBy_e hV hE he (by omega), reignBy_m hV hM he (by omega)]
    simp (disch := omega) only [gd_t, if_neg, Option.bind_some]
    by_cases hc : rv (a e) (z e) (k : Int) < y
    · rw [if_pos hc, if_pos hc, cast1]
      exact ih (k + 1) m (by omega)
    · rw [if_neg hc, if_neg hc]
      exact ⟨_, rfl, rfl⟩
theorem needs_q (h : Rel σ μ) {x y : Int} (hx : rg x) (hy : rg y) : AlR (pX10_needs σ x y) (pX11_needs μ x y) := by
  obtain ⟨n, hV, hE, hM⟩ := h.vw
  have h7 := hV.1
  obtain ⟨⟨t1, t2, t3, t4, t5, t6, t7, t8, t9, tE, tA⟩, -⟩ := id h
  unfold AlR pX10_needs pX10_needs_0 pX11_needs pX11_needs_0
  rw [hasEgg_e hE.1 h7 hx, isEgg_m hM.1 h7 hx, within_e hy (by decide) (by decide), in_e hy (by decide) (by decide)]
  by_cases h1 : 0 ≤ x ∧ x < (n : Int)
  · rw [if_pos h1]
    by_cases h2 : 1 ≤ y ∧ y ≤ 99
    · rw [if_pos h2]
      simp (disch := omega) only [gd_t, Option.bind_some, if_neg]
      obtain ⟨L, hL⟩ := Int.eq_ofNat_of_zero_le t6.1
      obtain ⟨e, rfl⟩ := Int.eq_ofNat_of_zero_le h1.1
      have := needs_l hV hE hM t2 hL (by omega) (e := e) (by omega) hy (L + 1) 0 (99999 - (L + 1)) (by omega)
      rw [show 99999 - (L + 1) + (L + 1) + 1 = FU from by unfold FU; omega] at this
      exact this
    · rw [if_neg h2]
      exact ⟨-1000000002, by simp (disch := omega) only [gd_t, Option.bind_some, if_neg, ite_true], by simp (disch := omega) only [gd_t, Option.bind_some, if_neg, ite_true]⟩
  · rw [if_neg h1]
    exact ⟨-1000000001, by simp (disch := omega) only [gd_t, Option.bind_some, if_neg, ite_true], by simp (disch := omega) only [gd_t, Option.bind_some, if_neg, ite_true]⟩
theorem wish_q (h : Rel σ μ) {x y : Int} (hx : rg x) (hy : rg y) : Al (pX10_wish σ x y) (pX11_wish μ x y) := by
  obtain ⟨n, hV, hE, hM⟩ := h.vw
  have h7 := hV.1
  have hn := hE.1
  obtain ⟨⟨t1, t2, t3, t4, t5, t6, t7, t8, t9, tE, tA⟩, hX, hF, hN, hP, hI, hC, hB⟩ := id h
  unfold Al pX10_wish pX10_wish_0 pX11_wish pX11_wish_0 pX8_wishOf_c1 pX8_wishOf_c1_0 pX8_setWish_c1 pX8_setWish_c1_0
  rw [hasEgg_e hE.1 h7 hx, isEgg_m hM.1 h7 hx, within_e hy (by decide) (by omega), in_e hy (by decide) (by omega), ← t2]
  by_cases h1 : 0 ≤ x ∧ x < (n : Int)
  · rw [if_pos h1]
    by_cases h2 : 1 ≤ y ∧ y ≤ σ.1 4
    · rw [if_pos h2]
      obtain ⟨e, rfl⟩ := Int.eq_ofNat_of_zero_le h1.1
      have q := tE e (by omega)
      refine ⟨σ.2 2 e, sA σ 2 (va_up (σ.2 2) e y), sA μ 4 (va_up (μ.2 4) e y), ?_, ?_, ⟨t1, t2, t3, t4, t5, t6, t7, t8, t9, fun i hi => ?_, tA⟩, hX, hF, hN, hP, hI, hC, hB⟩
      · simp (disch := omega) only [gd_t, Option.bind_some, if_neg, nm, Int.toNat_natCast]
      · simp (disch := omega) only [gd_t, Option.bind_some, if_neg, nm, Int.toNat_natCast, ← q.2.2.1]
      · have hi : (i : Int) < σ.1 5 := hi
        have p := tE i hi
        show (σ.2 0 i = μ.2 0 i ∧ 0 ≤ σ.2 0 i ∧ σ.2 0 i ≤ 30) ∧ (σ.2 1 i = μ.2 1 i ∧ 1 ≤ σ.2 1 i ∧ σ.2 1 i ≤ 5) ∧ (va_up (σ.2 2) e y i = va_up (μ.2 4) e y i ∧ 1 ≤ va_up (σ.2 2) e y i ∧ va_up (σ.2 2) e y i ≤ 30)
        refine ⟨p.1, p.2.1, ?_⟩
        rw [vu, vu]
        by_cases hj : i = e
        · rw [if_pos hj, if_pos hj]; omega
        · rw [if_neg hj, if_neg hj]; exact p.2.2
    · rw [if_neg h2]
      exact ⟨-1000000002, σ, μ, by simp (disch := omega) only [gd_t, Option.bind_some, if_neg, ite_true], by simp (disch := omega) only [gd_t, Option.bind_some, if_neg, ite_true], h⟩
  · rw [if_neg h1]
    exact ⟨-1000000001, σ, μ, by simp (disch := omega) only [gd_t, Option.bind_some, if_neg, ite_true], by simp (disch := omega) only [gd_t, Option.bind_some, if_neg, ite_true], h⟩
end
