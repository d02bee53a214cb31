section
variable {σ μ : St}
theorem undo22 (ν : St) {u : Nat} (hu : ν.1 12 = (u : Int)) (hu2 : u ≤ 19) : ∃ w, pX11_undo_22 FU ν 0 = some ((u : Int), sA ν 5 w) ∧ ∀ k, k < 19 → w k = ν.2 12 (19 * u + k) := by
  obtain ⟨w, m, i1, e⟩ := lp_exA (fun m i (g : Nat → Int) => pX11_undo_22 m (sA ν 5 g) i) (fun k g => ∀ j, j < k → g j = ν.2 12 (19 * u + j)) 0 19 (by decide) (by decide) (ν.2 5) (fun j h => by omega) (fun m k g hk1 hk i1 => by
    have e1 : Int.toNat (19 * (u : Int) + (k : Int)) = 19 * u + k := by omega
    refine ⟨va_up g k (ν.2 12 (19 * u + k)), fun j hj => ?_, ?_⟩
    · rw [vu]
      by_cases h : j = k
      · rw [if_pos h, h]
      · rw [if_neg h]; exact i1 j (by omega)
    · rw [pX11_undo_22]
      simp (disch := omega) only [gd_t, if_neg, if_pos, nm, sA_1, sA_2, sA_sA, hu, e1, Int.toNat_natCast, cast1, ite_true])
  refine ⟨w, ?_, i1⟩
  rw [sA_same] at e
  refine Eq.trans e ?_
  rw [pX11_undo_22, gd_t (by omega), if_pos (by omega), sA_1, hu]
theorem undo_q (h : Rel σ μ) : Al (pX10_undo σ) (pX11_undo μ) := by
  have h7 := h.n7
  obtain ⟨hT, hX, hF, hN, ⟨p1, p2, p3, p4⟩, hI, hC, hB⟩ := id h
  obtain ⟨o, ho⟩ := Int.eq_ofNat_of_zero_le p1.1
  obtain ⟨c, hc⟩ := Int.eq_ofNat_of_zero_le p3.1
  unfold Al pX10_undo pX10_undo_0 pX11_undo pX11_undo_0 pX5_bringBack pX5_bringBack_0
  rw [← p2, gd_t (show rg (σ.1 23) by omega), gd_t (show rg (σ.1 23) by omega)]
  by_cases h0 : σ.1 23 = 0
  · rw [if_neg (by omega), if_pos h0]
    exact ⟨-1000000003, σ, μ, by simp (disch := omega) only [Option.bind_some, nm, gd_t, ite_true], rfl, h⟩
  · rw [if_pos (by omega), if_neg h0]
    have e1 : (((o : Int) + ((c : Int) - 1)) % 20) * 20 = ((20 * ((o + (c - 1)) % 20) : Nat) : Int) := by omega
    obtain ⟨w, eM, q⟩ := undo22 (sI μ 12 (σ.1 23 - 1)) (u := c - 1) (by show σ.1 23 - 1 = _; omega) (by omega)
    have hr := p4 (c - 1) (by omega)
    rw [ho, Int.toNat_natCast] at hr
    refine ⟨((c - 1 : Nat) : Int), unrow (sI σ 23 (σ.1 23 - 1)) (σ.2 13) (20 * ((o + (c - 1)) % 20)), sA (sI μ 12 (σ.1 23 - 1)) 5 w, ?_, ?_, hT, hX, hF, ?_, ⟨p1, rfl, ?_, ?_⟩, hI, hC, hB⟩
    · have eL := load19_e (sI σ 23 (σ.1 23 - 1)) (p := 20 * ((o + (c - 1)) % 20)) (by omega)
      simp (disch := omega) only [nm, sI_1, if_neg, ite_true, ho, hc, gd_t, e1]
      rw [← hc, eL]
      simp (disch := omega) only [Option.bind_some, gd_t, if_neg]
      congr 2
      show σ.1 23 - 1 = _
      omega
    · rw [nm_v]; exact eM
    · refine RN.of20 (M20.congr (n := σ.1 5) h7 (fun j hj => ?_) (fun j hj => ?_) hr) h7
      · exact unrow_mv _ _ _ hj
      · exact q j hj
    · show 0 ≤ σ.1 23 - 1 ∧ σ.1 23 - 1 ≤ 20
      omega
    · intro i hi
      have hi : (i : Int) < σ.1 23 - 1 := hi
      exact p4 i (by omega)
theorem keep15 (ν : St) {i : Nat} (hi : i < 2) : ∃ g, pX11_keep_15 FU ν (i : Int) 0 = some (1, sI (sA (sA ν 23 g) 24 (va_up (ν.2 24) i 1)) 12 0) ∧ (∀ k, k < 19 → g (20 * i + k) = ν.2 5 k) ∧ g (20 * i + 19) = ν.1 4 ∧ ∀ j, j < 20 * i ∨ 20 * i + 20 ≤ j → g j = ν.2 23 j := by
  obtain ⟨g, m, ⟨i1, i2⟩, e⟩ := lp_exA (fun m k (g : Nat → Int) => pX11_keep_15 m (sA ν 23 g) (i : Int) k) (fun k g => (∀ j, j < k → g (20 * i + j) = ν.2 5 j) ∧ ∀ j, j < 20 * i ∨ 20 * i + 20 ≤ j → g j = ν.2 23 j) 0 19 (by decide) (by decide) (ν.2 23) ⟨fun j h => by omega, fun _ _ => rfl⟩ (fun m k g hk1 hk hI => by
    obtain ⟨i1, i2⟩ := hI
    have e1 : Int.toNat (20 * (i : Int) + (k : Int)) = 20 * i + k := by omega
    refine ⟨va_up g (20 * i + k) (ν.2 5 k), ⟨fun j hj => ?_, fun j hj => ?_⟩, ?_⟩
    · rw [vu]
      by_cases h : j = k
      · rw [if_pos (by omega), h]
      · rw [if_neg (by omega)]; exact i1 j (by omega)
    · rw [vu, if_neg (by omega)]; exact i2 j hj
    · rw [pX11_keep_15]
      simp (disch := omega) only [gd_t, if_neg, if_pos, nm, sA_1, sA_2, sA_sA, e1, Int.toNat_natCast, cast1, ite_true])
  have e1 : Int.toNat (20 * (i : Int) + 19) = 20 * i + 19 := by omega
  refine ⟨va_up g (20 * i + 19) (ν.1 4), ?_, fun k hk => ?_, ?_, fun j hj => ?_⟩
  · rw [sA_same] at e
    refine Eq.trans e ?_
    rw [pX11_keep_15]
    simp (disch := omega) only [gd_t, if_neg, if_pos, nm, sA_1, sA_2, sA_sA, e1, Int.toNat_natCast, ite_true]
  · rw [vu, if_neg (by omega)]; exact i1 k hk
  · rw [vu, if_pos rfl]
  · rw [vu, if_neg (by omega)]; exact i2 j hj
theorem keep_q (h : Rel σ μ) {x : Int} (hx : rg x) : Al (pX10_keep σ x) (pX11_keep μ x) := by
  have h7 := h.n7
  obtain ⟨hT, hX, hF, hN, hP, hI, hC, hB⟩ := id h
  unfold Al pX10_keep pX10_keep_0 pX11_keep pX11_keep_0
  rw [within_e hx (by decide) (by decide), in_e hx (by decide) (by decide), gd_t hx]
  by_cases hc : 0 ≤ x ∧ x ≤ 1
  · rw [if_pos hc]
    obtain ⟨i, rfl⟩ := Int.eq_ofNat_of_zero_le hc.1
    obtain ⟨g, eM, g1, g2, g3⟩ := keep15 μ (i := i) (by omega)
    refine ⟨1, sI (sI (sA (sA (sA σ 14 (row σ (σ.2 14) (20 * i))) 15 (va_up (σ.2 15) i (σ.1 1))) 16 (va_up (σ.2 16) i 1)) 22 0) 23 0, sI (sA (sA μ 23 g) 24 (va_up (μ.2 24) i 1)) 12 0, ?_, by rw [Option.bind_some, gd_t (by decide), if_neg (by decide)]; exact eM, hT, hX, hF, hN, ⟨?_, rfl, ?_, ?_⟩, ?_, hC, hB⟩
    · have e1 : (i : Int) * 20 = ((20 * i : Nat) : Int) := by omega
      have eS := save21_e σ (p := 20 * i) (by omega)
      unfold pX3_take pX3_take_0 pX5_forget pX5_forget_0
      rw [e1, eS]
      simp (disch := omega) only [Option.bind_some, gd_t, if_neg, nm, sA_2, Int.toNat_natCast]
    · show (0 : Int) ≤ 0 ∧ (0 : Int) ≤ 19
      decide
    · show (0 : Int) ≤ 0 ∧ (0 : Int) ≤ 20
      decide
    · intro j hj
      have hj : (j : Int) < 0 := hj
      omega
    · intro j hj
      show va_up (σ.2 16) i 1 j = va_up (μ.2 24) i 1 j ∧ (va_up (σ.2 16) i 1 j = 0 ∨ va_up (σ.2 16) i 1 j = 1) ∧ (va_up (σ.2 16) i 1 j = 1 → M20 (σ.1 5) (fun k => row σ (σ.2 14) (20 * i) (20 * j + k)) (fun k => g (20 * j + k)) ∧ va_up (σ.2 15) i (σ.1 1) j = g (20 * j + 19) ∧ 0 ≤ va_up (σ.2 15) i (σ.1 1) j ∧ va_up (σ.2 15) i (σ.1 1) j ≤ 2147483647)
      rw [vu, vu, vu]
      by_cases hij : j = i
      · rw [if_pos hij, if_pos hij, if_pos hij, hij]
        refine ⟨rfl, Or.inr rfl, fun _ => ⟨M20.congr h7 (fun k hk => row_in σ _ _ hk) (fun k hk => g1 k hk) (hN.m20 h7), ?_, hF.2.2⟩⟩
        rw [g2]; exact hF.2.1
      · rw [if_neg hij, if_neg hij, if_neg hij]
        have q := hI j hj
        refine ⟨q.1, q.2.1, fun q1 => ?_⟩
        obtain ⟨r1, r2, r3⟩ := q.2.2 q1
        refine ⟨M20.congr h7 (fun k hk => ?_) (fun k hk => ?_) r1, ?_, r3⟩
        · exact row_out σ _ _ (by omega)
        · exact g3 _ (by omega)
        · rw [g3 _ (by omega)]; exact r2
  · rw [if_neg hc]
    exact ⟨-1000000001, σ, μ, by simp (disch := omega) only [gd_t, Option.bind_some, if_neg, ite_true], by simp (disch := omega) only [gd_t, Option.bind_some, if_neg, ite_true], h⟩
theorem back27 (ν : St) {i : Nat} (hi : i < 2) : ∃ w, pX11_goBack_27 FU ν (i : Int) 0 = some (1, sI (sI (sA ν 5 w) 4 (ν.2 23 (20 * i + 19))) 12 0) ∧ ∀ k, k < 19 → w k = ν.2 23 (20 * i + k) := by
  obtain ⟨w, m, i1, e⟩ := lp_exA (fun m k (g : Nat → Int) => pX11_goBack_27 m (sA ν 5 g) (i : Int) k) (fun k g => ∀ j, j < k → g j = ν.2 23 (20 * i + j)) 0 19 (by decide) (by decide) (ν.2 5) (fun j h => by omega) (fun m k g hk1 hk i1 => by
    have e1 : Int.toNat (20 * (i : Int) + (k : Int)) = 20 * i + k := by omega
    refine ⟨va_up g k (ν.2 23 (20 * i + k)), fun j hj => ?_, ?_⟩
    · rw [vu]
      by_cases h : j = k
      · rw [if_pos h, h]
      · rw [if_neg h]; exact i1 j (by omega)
    · rw [pX11_goBack_27]
      simp (disch := omega) only [gd_t, if_neg, if_pos, nm, sA_1, sA_2, sA_sA, e1, Int.toNat_natCast, cast1, ite_true])
  have e1 : Int.toNat (20 * (i : Int) + 19) = 20 * i + 19 := by omega
  refine ⟨w, ?_, i1⟩
  rw [sA_same] at e
  refine Eq.trans e ?_
  rw [pX11_goBack_27]
  simp (disch := omega) only [gd_t, if_neg, if_pos, nm, sA_1, sA_2, e1]
theorem has_e {τ : St} {i : Nat} (hi : i < 2) (h : τ.2 16 i = 0 ∨ τ.2 16 i = 1) : pX3_has τ (i : Int) = some (τ.2 16 i) := by
  unfold pX3_has pX3_has_0
  rw [Int.toNat_natCast]
  rcases h with h | h
  · simp (disch := omega) only [gd_t, if_neg, if_pos, h, ite_true]
  · simp (disch := omega) only [gd_t, if_neg, if_pos, h]
theorem goBack_q (h : Rel σ μ) {x : Int} (hx : rg x) : Al (pX10_goBack σ x) (pX11_goBack μ x) := by
  have h7 := h.n7
  obtain ⟨hT, hX, hF, hN, hP, hI, hC, hB⟩ := id h
  unfold Al pX10_goBack pX10_goBack_0 pX11_goBack pX11_goBack_0
  rw [within_e hx (by decide) (by decide), in_e hx (by decide) (by decide), gd_t hx]
  by_cases hc : 0 ≤ x ∧ x ≤ 1
  · rw [if_pos hc]
    obtain ⟨i, rfl⟩ := Int.eq_ofNat_of_zero_le hc.1
    have hi : i < 2 := by omega
    obtain ⟨r1, r2, r3⟩ := hI i hi
    rw [has_e hi r2, Int.toNat_natCast, ← r1]
    rcases r2 with r0 | r0
    · refine ⟨-1000000003, σ, μ, ?_, ?_, h⟩
      · simp (disch := omega) only [Option.bind_some, gd_t, if_neg, if_pos]
      · simp (disch := omega) only [Option.bind_some, gd_t, if_neg, if_pos]
    · obtain ⟨q1, q2, q3⟩ := r3 r0
      obtain ⟨w, eM, qw⟩ := back27 μ hi
      have e1 : (i : Int) * 20 = ((20 * i : Nat) : Int) := by omega
      have eL := load21_e σ (p := 20 * i) (by omega)
      have eS : pX3_show σ (i : Int) = some (unrow σ (σ.2 14) (20 * i)) := by
        unfold pX3_show pX3_show_0
        rw [has_e hi (Or.inr r0), e1, eL]
        simp (disch := omega) only [Option.bind_some, gd_t, if_neg]
      have eO : pX3_seedOf (unrow σ (σ.2 14) (20 * i)) (i : Int) = some (σ.2 15 i) := by
        have hh : pX3_has (unrow σ (σ.2 14) (20 * i)) (i : Int) = some (σ.2 16 i) := has_e (τ := unrow σ (σ.2 14) (20 * i)) hi (Or.inr r0)
        unfold pX3_seedOf pX3_seedOf_0
        rw [hh]
        simp (disch := omega) only [Option.bind_some, gd_t, if_neg, Int.toNat_natCast]
        rfl
      refine ⟨1, sI (sI (sI (unrow σ (σ.2 14) (20 * i)) 1 (σ.2 15 i)) 22 0) 23 0, sI (sI (sA μ 5 w) 4 (μ.2 23 (20 * i + 19))) 12 0, ?_, ?_, hT, hX, ⟨hF.1, ?_⟩, ?_, ⟨?_, rfl, ?_, ?_⟩, hI, hC, hB⟩
      rotate_left
      · rw [Option.bind_some, gd_t (by decide), if_neg (by decide), gd_t (by omega), gd_t (by omega), if_neg (by omega)]
        exact eM
      · show σ.2 15 i = μ.2 23 (20 * i + 19) ∧ 0 ≤ σ.2 15 i ∧ σ.2 15 i ≤ 2147483647
        exact ⟨q2, q3⟩
      · refine RN.of20 (M20.congr (n := σ.1 5) h7 (fun j hj => ?_) (fun j hj => ?_) q1) h7
        · have z : mv (sI (sI (sI (unrow σ (σ.2 14) (20 * i)) 1 (σ.2 15 i)) 22 0) 23 0) j = mv (unrow σ (σ.2 14) (20 * i)) j := by
            unfold mv
            by_cases h1 : j < 7
            · rw [if_pos h1, if_pos h1]; rfl
            · by_cases h2 : j < 14
              · rw [if_neg h1, if_neg h1, if_pos h2, if_pos h2]; rfl
              · rw [if_neg h1, if_neg h1, if_neg h2, if_neg h2]
                show va_up (va_up (va_up (unrow σ (σ.2 14) (20 * i)).1 1 (σ.2 15 i)) 22 0) 23 0 (j + 2) = _
                rw [vu, vu, vu, if_neg (by omega), if_neg (by omega), if_neg (by omega)]
          rw [z]
          exact unrow_mv _ _ _ hj
        · exact qw j hj
      · show (0 : Int) ≤ 0 ∧ (0 : Int) ≤ 19
        decide
      · show (0 : Int) ≤ 0 ∧ (0 : Int) ≤ 20
        decide
      · intro j hj
        have hj : (j : Int) < 0 := hj
        omega
      · unfold pX5_forget pX5_forget_0
        rw [eS]
        simp (disch := omega) only [Option.bind_some, gd_t, if_neg]
        rw [eO]
        simp only [Option.bind_some, nm]
  · rw [if_neg hc]
    exact ⟨-1000000001, σ, μ, by simp (disch := omega) only [gd_t, Option.bind_some, if_neg, ite_true], by simp (disch := omega) only [gd_t, Option.bind_some, if_neg, ite_true], h⟩
end
