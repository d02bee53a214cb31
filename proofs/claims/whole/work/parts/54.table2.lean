theorem three_A (B : St) (a b d a' b' d' : Nat → Int) : sA (sA (sA (sA (sA (sA B 0 a) 1 b) 4 d) 0 a') 1 b') 4 d' = sA (sA (sA B 0 a') 1 b') 4 d' := by
  have : ∀ j, (sA (sA (sA (sA (sA (sA B 0 a) 1 b) 4 d) 0 a') 1 b') 4 d').2 j = (sA (sA (sA B 0 a') 1 b') 4 d').2 j := fun j => by
    show (if j = 4 then d' else if j = 1 then b' else if j = 0 then a' else if j = 4 then d else if j = 1 then b else if j = 0 then a else B.2 j) = (if j = 4 then d' else if j = 1 then b' else if j = 0 then a' else B.2 j)
    by_cases h1 : j = 4 <;> by_cases h2 : j = 1 <;> by_cases h3 : j = 0 <;> simp [h1, h2, h3]
  exact Prod.ext rfl (funext this)
theorem two_C (B : St) (a b a' b' : Nat → Int) : sA (sA (sA (sA B 2 a) 3 b) 2 a') 3 b' = sA (sA B 2 a') 3 b' := by
  rw [sA_comm B (by decide) a b, sA_sA, sA_comm (sA B 3 b) (by decide), sA_sA, sA_comm B (by decide)]
theorem take38 (B : St) : ∃ (w : Nat → Int) (m : Nat), pX11_takeRead_38 FU B 0 = pX11_takeRead_38 (m + 1) (sA B 5 w) 19 ∧ ∀ j, j < 19 → w j = 0 := by
  obtain ⟨w, m, i1, e⟩ := lp_exA (fun m i (q : Nat → Int) => pX11_takeRead_38 m (sA B 5 q) i) (fun k q => ∀ j, j < k → q j = 0) 0 19 (by decide) (by decide) (B.2 5) (fun j h => by omega) (fun m k q hk1 hk hI => by
    refine ⟨va_up q k 0, fun j hj => ?_, ?_⟩
    · rw [vu]
      by_cases h : j = k
      · rw [if_pos h]
      · rw [if_neg h]; exact hI j (by omega)
    · rw [pX11_takeRead_38, gd_t (by omega), if_neg (by omega), gd_t (by omega), Int.toNat_natCast, nm_v, sA_sA, cast1]
      rfl)
  rw [sA_same] at e
  exact ⟨w, m, e, i1⟩
theorem take72 (B : St) : ∃ (a b d : Nat → Int) (m : Nat), pX11_takeRead_72 FU B 0 = pX11_takeRead_72 (m + 1) (sA (sA (sA B 0 a) 1 b) 4 d) 7 ∧ ∀ j, j < 7 → a j = B.2 8 j ∧ b j = B.2 9 j ∧ d j = 1 := by
  obtain ⟨⟨a, b, d⟩, m, i1, e⟩ := lp_exA (fun m i (q : (Nat → Int) × (Nat → Int) × (Nat → Int)) => pX11_takeRead_72 m (sA (sA (sA B 0 q.1) 1 q.2.1) 4 q.2.2) i) (fun k q => ∀ j, j < k → q.1 j = B.2 8 j ∧ q.2.1 j = B.2 9 j ∧ q.2.2 j = 1) 0 7 (by decide) (by decide) (B.2 0, B.2 1, B.2 4) (fun j h => by omega) (fun m k q hk1 hk hI => by
    refine ⟨(va_up q.1 k (B.2 8 k), va_up q.2.1 k (B.2 9 k), va_up q.2.2 k 1), fun j hj => ?_, ?_⟩
    · dsimp only
      rw [vu, vu, vu]
      by_cases h : j = k
      · rw [if_pos h, if_pos h, if_pos h, h]; exact ⟨rfl, rfl, rfl⟩
      · rw [if_neg h, if_neg h, if_neg h]; exact hI j (by omega)
    · rw [pX11_takeRead_72, gd_t (by omega), if_neg (by omega), gd_t (by omega), gd_t (by omega), Int.toNat_natCast, nm_v, gd_t (by omega), gd_t (by omega), nm_v, gd_t (by omega), nm_v, cast1]
      have e1 : (sA (sA (sA B 0 q.1) 1 q.2.1) 4 q.2.2).2 0 = q.1 := rfl
      have e2 : (sA (sA (sA B 0 q.1) 1 q.2.1) 4 q.2.2).2 8 = B.2 8 := rfl
      rw [e1, e2]
      have e3 : (sA (sA (sA (sA B 0 q.1) 1 q.2.1) 4 q.2.2) 0 (va_up q.1 k (B.2 8 k))).2 1 = q.2.1 := rfl
      have e4 : (sA (sA (sA (sA B 0 q.1) 1 q.2.1) 4 q.2.2) 0 (va_up q.1 k (B.2 8 k))).2 9 = B.2 9 := rfl
      rw [e3, e4]
      have e5 : (sA (sA (sA (sA (sA B 0 q.1) 1 q.2.1) 4 q.2.2) 0 (va_up q.1 k (B.2 8 k))) 1 (va_up q.2.1 k (B.2 9 k))).2 4 = q.2.2 := rfl
      rw [e5, three_A])
  rw [sA_same, sA_same, sA_same] at e
  exact ⟨a, b, d, m, e, i1⟩
theorem take117 (B : St) : ∃ (a b : Nat → Int), pX11_takeRead_117 FU B 0 = some (sA (sA B 2 a) 3 b) ∧ ∀ j, j < 5 → a j = B.2 10 j ∧ b j = B.2 11 j := by
  obtain ⟨⟨a, b⟩, m, i1, e⟩ := lp_exA (fun m i (q : (Nat → Int) × (Nat → Int)) => pX11_takeRead_117 m (sA (sA B 2 q.1) 3 q.2) i) (fun k q => ∀ j, j < k → q.1 j = B.2 10 j ∧ q.2 j = B.2 11 j) 0 5 (by decide) (by decide) (B.2 2, B.2 3) (fun j h => by omega) (fun m k q hk1 hk hI => by
    refine ⟨(va_up q.1 k (B.2 10 k), va_up q.2 k (B.2 11 k)), fun j hj => ?_, ?_⟩
    · dsimp only
      rw [vu, vu]
      by_cases h : j = k
      · rw [if_pos h, if_pos h, h]; exact ⟨rfl, rfl⟩
      · rw [if_neg h, if_neg h]; exact hI j (by omega)
    · rw [pX11_takeRead_117, gd_t (by omega), if_neg (by omega), gd_t (by omega), gd_t (by omega), Int.toNat_natCast, nm_v, gd_t (by omega), gd_t (by omega), nm_v, cast1]
      have e1 : (sA (sA B 2 q.1) 3 q.2).2 2 = q.1 := rfl
      have e2 : (sA (sA B 2 q.1) 3 q.2).2 10 = B.2 10 := rfl
      rw [e1, e2]
      have e3 : (sA (sA (sA B 2 q.1) 3 q.2) 2 (va_up q.1 k (B.2 10 k))).2 3 = q.2 := rfl
      have e4 : (sA (sA (sA B 2 q.1) 3 q.2) 2 (va_up q.1 k (B.2 10 k))).2 11 = B.2 11 := rfl
      rw [e3, e4, two_C])
  rw [sA_same, sA_same] at e
  refine ⟨a, b, Eq.trans e ?_, i1⟩
  rw [pX11_takeRead_117, gd_t (by decide), if_pos (by decide)]
theorem takeRead_m (ν : St) : ∃ (w a0 a1 a4 a2 a3 : Nat → Int), pX11_takeRead ν = some (sA (sA (sA (sA (sA (sA (sI (sI (sI (sI ν 0 (ν.2 7 0)) 1 (ν.2 7 2)) 2 (ν.1 10)) 3 (ν.1 11)) 5 w) 0 a0) 1 a1) 4 a4) 2 a2) 3 a3) ∧ (∀ j, j < 19 → j ≠ 14 → w j = 0) ∧ w 14 = ν.2 7 1 ∧ (∀ e, e < 7 → a0 e = ν.2 8 e ∧ a1 e = ν.2 9 e ∧ a4 e = 1) ∧ (∀ i, i < 5 → a2 i = ν.2 10 i ∧ a3 i = ν.2 11 i) := by
  obtain ⟨w, m, e1, q1⟩ := take38 (sI (sI (sI (sI ν 0 (ν.2 7 0)) 1 (ν.2 7 2)) 2 (ν.1 10)) 3 (ν.1 11))
  obtain ⟨a, b, d, m', e2, q2⟩ := take72 (sA (sI (sI (sI (sI ν 0 (ν.2 7 0)) 1 (ν.2 7 2)) 2 (ν.1 10)) 3 (ν.1 11)) 5 (va_up w 14 (ν.2 7 1)))
  obtain ⟨a2, a3, e3, q3⟩ := take117 (sA (sA (sA (sA (sI (sI (sI (sI ν 0 (ν.2 7 0)) 1 (ν.2 7 2)) 2 (ν.1 10)) 3 (ν.1 11)) 5 (va_up w 14 (ν.2 7 1))) 0 a) 1 b) 4 d)
  refine ⟨va_up w 14 (ν.2 7 1), a, b, d, a2, a3, ?_, fun j hj h14 => ?_, ?_, q2, q3⟩
  · unfold pX11_takeRead pX11_takeRead_0
    rw [nm_v, nm_v, nm_v, nm_v]
    have z1 : (sI ν 0 (ν.2 7 0)).2 7 2 = ν.2 7 2 := rfl
    have z2 : (sI (sI ν 0 (ν.2 7 0)) 1 (ν.2 7 2)).1 10 = ν.1 10 := rfl
    have z3 : (sI (sI (sI ν 0 (ν.2 7 0)) 1 (ν.2 7 2)) 2 (ν.1 10)).1 11 = ν.1 11 := rfl
    rw [z1, z2, z3, e1, pX11_takeRead_38, gd_t (by decide), if_pos (by decide), nm_v, sA_sA]
    have z4 : (sA (sI (sI (sI (sI ν 0 (ν.2 7 0)) 1 (ν.2 7 2)) 2 (ν.1 10)) 3 (ν.1 11)) 5 w).2 5 = w := rfl
    have z5 : (sA (sI (sI (sI (sI ν 0 (ν.2 7 0)) 1 (ν.2 7 2)) 2 (ν.1 10)) 3 (ν.1 11)) 5 w).2 7 1 = ν.2 7 1 := rfl
    rw [z4, z5, e2, pX11_takeRead_72, gd_t (by decide), if_pos (by decide), e3]
  · rw [vu, if_neg h14]; exact q1 j hj
  · rw [vu, if_pos rfl]
def tb1 (τ : St) : St := sA (sA (sA (sA (sA (sI (sI (sI (sI (sI (sI (sI τ 0 (τ.1 10)) 7 0) 2 (τ.1 11)) 3 (τ.1 12)) 4 (τ.1 13)) 5 (τ.1 14)) 6 (τ.1 15)) 0 (va_cpy (τ.2 6) (τ.2 0) 0 0 7)) 1 (va_cpy (τ.2 7) (τ.2 1) 0 0 7)) 2 (va_cpy (τ.2 8) (τ.2 2) 0 0 7)) 3 (va_cpy (τ.2 9) (τ.2 3) 0 0 5)) 4 (va_cpy (τ.2 10) (τ.2 4) 0 0 5)
def tb2 (τ : St) (s b : Nat → Int) : St := sI (sI (sI (sI (sI (sI (sI (sI (sA (sA (tb1 τ) 11 s) 12 b) 16 (-1)) 17 0) 18 ((tb1 τ).1 3)) 19 0) 20 0) 21 0) 22 0) 23 0
def tb3 (ν : St) (w k0 k1 k4 k2 k3 : Nat → Int) : St := sI (sI (sI (sA (sA (sA (sA (sA (sA (sI (sI (sI (sI (sI ν 5 0) 0 (ν.2 7 0)) 1 (ν.2 7 2)) 2 (ν.1 10)) 3 (ν.1 11)) 5 w) 0 k0) 1 k1) 4 k4) 2 k2) 3 k3) 13 0) 14 0) 12 0
theorem table_q {σ μ : St} (h : Rel σ μ) : Al (pX10_table σ) (pX11_table μ) := by
  obtain ⟨hT, ⟨x1, x2, x3⟩, hF, hN, hP, hI, hC, hB⟩ := id h
  obtain ⟨c, hc⟩ := Int.eq_ofNat_of_zero_le x2.1
  -- the reading begins
  obtain ⟨g0, m0, i0, e0⟩ := lp_exA (fun m i (q : Nat → Int) => pX11_table_12 m (sA (sI (sI μ 6 (-1)) 7 0) 7 q) i) (fun k q => ∀ j, j < k → q j = 0) 0 3 (by decide) (by decide) ((sI (sI μ 6 (-1)) 7 0).2 7) (fun j h => by omega) (fun m k q hk1 hk hI => by
    refine ⟨va_up q k 0, fun j hj => ?_, ?_⟩
    · rw [vu]
      by_cases h : j = k
      · rw [if_pos h]
      · rw [if_neg h]; exact hI j (by omega)
    · rw [pX11_table_12, gd_t (by omega), if_neg (by omega), gd_t (by omega), Int.toNat_natCast, nm_v, sA_sA, cast1]
      rfl)
  rw [sA_same] at e0
  have F0 : FE σ (sI (sI (sI (sI (sI (sI (sI (sI σ 11 0) 12 0) 13 0) 14 0) 15 0) 8 0) 9 0) 10 (-1)) := ((((fe_i σ (j := 11) (by decide) 0).trans (fe_i _ (j := 12) (by decide) 0)).trans ((fe_i _ (j := 13) (by decide) 0).trans (fe_i _ (j := 14) (by decide) 0))).trans (((fe_i _ (j := 15) (by decide) 0).trans (fe_i _ (j := 8) (by decide) 0)).trans (fe_i _ (j := 9) (by decide) 0))).trans (fe_i _ (j := 10) (by decide) (-1))
  have M0 : FM μ (sI (sI (sA (sI (sI μ 6 (-1)) 7 0) 7 g0) 10 0) 11 0) := (((fm_i μ (j := 6) (by decide) (-1)).trans (fm_i _ (j := 7) (by decide) 0)).trans (fm_a _ (j := 7) (by decide) g0)).trans ((fm_i _ (j := 10) (by decide) 0).trans (fm_i _ (j := 11) (by decide) 0))
  have hX0 : TX_ σ μ c (σ.2 5) := ⟨⟨hc, by omega, by omega⟩, fun j hj => by have := x3 j (by omega); exact ⟨rfl, this.1.symm, this.2⟩⟩
  have hG0 : Go (sI (sI (sI (sI (sI (sI (sI (sI σ 11 0) 12 0) 13 0) 14 0) 15 0) 8 0) 9 0) 10 (-1)) (sI (sI (sA (sI (sI μ 6 (-1)) 7 0) 7 g0) 10 0) 11 0) c 0 := by
    refine ⟨rfl, rfl, Nat.zero_le _, rfl, rfl, rfl, ⟨(i0 0 (by decide)).symm, by show (0 : Int) ≤ 0; decide, by show (0 : Int) ≤ 3; decide⟩, ⟨(i0 1 (by decide)).symm, by show (0 : Int) ≤ 0; decide, by show (0 : Int) ≤ 99; decide⟩, ⟨(i0 2 (by decide)).symm, by show (0 : Int) ≤ 0; decide, by show (0 : Int) ≤ 30; decide⟩, ⟨rfl, by show (0 : Int) ≤ 0; decide, by show (0 : Int) ≤ 7; decide⟩, ⟨rfl, by show (0 : Int) ≤ 0; decide, by show (0 : Int) ≤ 5; decide⟩, fun _ => ⟨rfl, rfl⟩, fun e he => ?_, fun e he => ?_⟩
    · have he : (e : Int) < 0 := he
      omega
    · have he : (e : Int) < 0 := he
      omega
  obtain ⟨f, τ, ν, a1, a2, a3, a4, a5⟩ := read_l c (σ.2 5) c _ _ 0 0 (99999 - c) (hX0.ff F0 M0) hG0 (by omega) (Nat.le_refl _)
  rw [show 99999 - c + c + 1 = FU from by unfold FU; omega] at a1 a2
  have F1 := F0.trans a3
  have M1 := M0.trans a4
  have eC : pX9_readInto_c9 σ = some (f, τ) := by
    unfold pX9_readInto_c9 pX9_readInto_c9_0
    have : pX8_clear_c9 σ = some (sI (sI (sI (sI (sI σ 11 0) 12 0) 13 0) 14 0) 15 0) := rfl
    rw [this, Option.bind_some, nm_v, nm_v, nm_v]
    exact a1
  have eM : pX11_table μ = pX11_table_61 ν f := by
    unfold pX11_table pX11_table_0
    rw [nm_v, nm_v]
    refine Eq.trans e0 ?_
    rw [pX11_table_12, gd_t (by decide), if_pos (by decide), nm_v, nm_v]
    exact a2
  obtain ⟨r1, r2, r3, r4, r5, r6, r7⟩ := h.fr F1 M1
  unfold Al pX10_table pX10_table_0
  rw [eC, eM, Option.bind_some]
  simp only [nm_v]
  unfold pX11_table_61
  have eF : pX9_faultPlace τ = some (τ.1 10) := rfl
  have eE : pX9_empty (sI τ 0 (τ.1 10)) = some (sI (sI τ 0 (τ.1 10)) 7 0) := rfl
  rw [eF, Option.bind_some, eE, Option.bind_some, nm_v]
  rcases a5 with ⟨rfl, ⟨D1, D2, D3, D4, D5, D6, D7, D8⟩, b1, b2⟩ | ⟨b0, b1, b2, b3, b4⟩
  · have eB : pX8_become_c1_c9 (sI (sI τ 0 (τ.1 10)) 7 0) = some (tb1 τ) := rfl
    obtain ⟨s, b, eG, qs⟩ := begin_e (tb1 τ)
    have ePf : ∀ x : St, pX5_forget x = some (sI (sI x 22 0) 23 0) := fun _ => rfl
    have eCf : ∀ x : St, pX2_forget x = some (sI x 24 0) := fun _ => rfl
    have eBf : ∀ x : St, pX1_forget x = some (sI x 25 0) := fun _ => rfl
    obtain ⟨w, k0, k1, k4, k2, k3, eT, w1, w2, w3, w4⟩ := takeRead_m (sI ν 5 0)
    obtain ⟨g, eI, qg⟩ := forget_i (tb2 τ s b)
    unfold tb2 at eI
    rw [gd_t (show rg (0 : Int) by decide), if_pos (show (0 : Int) = 0 from rfl), gd_t (show rg (0 : Int) by decide), if_pos (show (0 : Int) ≤ 0 by decide), eB, Option.bind_some, eG, Option.bind_some, ePf, Option.bind_some, eT, Option.bind_some, eI, Option.bind_some, eCf, Option.bind_some, eBf, Option.bind_some, nm_v, nm_v, nm_v, nm_v, nm_v]
    have hR : Rel (sI (sI (sA (tb2 τ s b) 16 g) 24 0) 25 0) (sA (sA (tb3 ν w k0 k1 k4 k2 k3) 24 (va_up (ν.2 24) 0 0)) 24 (va_up (va_up (ν.2 24) 0 0) 1 0)) := by
      refine ⟨⟨D1.1, D3.1, D4.1, D5.1, D1.2, D3.2, D4.2, D5.2, D6, fun e he => ?_, fun i hi => ?_⟩, ⟨rfl, by show (0 : Int) ≤ 0 ∧ (0 : Int) ≤ 240; decide, fun j hj => ?_⟩, ⟨⟨?_, ?_⟩, r7⟩, ⟨fun e he => ?_, ?_, ?_, ?_, ?_, ?_, Or.inl ⟨rfl, fun e he => ?_, rfl⟩⟩, ⟨by show (0 : Int) ≤ 0 ∧ (0 : Int) ≤ 19; decide, rfl, by show (0 : Int) ≤ 0 ∧ (0 : Int) ≤ 20; decide, fun j hj => ?_⟩, fun i hi => ?_, ⟨rfl, by show (0 : Int) ≤ 0 ∧ (0 : Int) ≤ 6; decide, fun j hj => ?_⟩, ⟨rfl, by show (0 : Int) ≤ 0 ∧ (0 : Int) ≤ 15; decide, fun j hj => ?_⟩⟩
      · have he : (e : Int) < τ.1 14 := he
        have q := D7 e he
        have q2 := w3 e (by omega)
        have z : ∀ A B : Nat → Int, va_cpy A B 0 0 7 e = A e := fun A B => by unfold va_cpy; rw [if_pos (by omega), Nat.zero_add, Nat.sub_zero]
        show (va_cpy (τ.2 6) (τ.2 0) 0 0 7 e = k0 e ∧ 0 ≤ va_cpy (τ.2 6) (τ.2 0) 0 0 7 e ∧ va_cpy (τ.2 6) (τ.2 0) 0 0 7 e ≤ 30) ∧ (va_cpy (τ.2 7) (τ.2 1) 0 0 7 e = k1 e ∧ 1 ≤ va_cpy (τ.2 7) (τ.2 1) 0 0 7 e ∧ va_cpy (τ.2 7) (τ.2 1) 0 0 7 e ≤ 5) ∧ (va_cpy (τ.2 8) (τ.2 2) 0 0 7 e = k4 e ∧ 1 ≤ va_cpy (τ.2 8) (τ.2 2) 0 0 7 e ∧ va_cpy (τ.2 8) (τ.2 2) 0 0 7 e ≤ 30)
        have q3 : k0 e = ν.2 8 e ∧ k1 e = ν.2 9 e ∧ k4 e = 1 := q2
        rw [z, z, z]
        omega
      · have hi : (i : Int) < τ.1 15 := hi
        have q := D8 i hi
        have q3 : k2 i = ν.2 10 i ∧ k3 i = ν.2 11 i := w4 i (by omega)
        have z : ∀ A B : Nat → Int, va_cpy A B 0 0 5 i = A i := fun A B => by unfold va_cpy; rw [if_pos (by omega), Nat.zero_add, Nat.sub_zero]
        show (va_cpy (τ.2 9) (τ.2 3) 0 0 5 i = k2 i ∧ 0 ≤ va_cpy (τ.2 9) (τ.2 3) 0 0 5 i ∧ va_cpy (τ.2 9) (τ.2 3) 0 0 5 i ≤ 99) ∧ (va_cpy (τ.2 10) (τ.2 4) 0 0 5 i = k3 i ∧ 0 ≤ va_cpy (τ.2 10) (τ.2 4) 0 0 5 i ∧ va_cpy (τ.2 10) (τ.2 4) 0 0 5 i ≤ 99)
        rw [z, z]
        omega
      · have hj : (j : Int) < 0 := hj
        omega
      · show τ.1 10 = ν.1 6
        omega
      · show -1 ≤ τ.1 10 ∧ τ.1 10 ≤ 240
        omega
      · have he : (e : Int) < τ.1 14 := he
        have q := qs e (by omega)
        have p1 := w1 e (by omega) (by omega)
        have p2 := w1 (7 + e) (by omega) (by omega)
        show (s e = w e ∧ 0 ≤ s e ∧ s e ≤ 5) ∧ (b e = w (7 + e) ∧ 0 ≤ b e ∧ b e ≤ 0)
        omega
      · show τ.1 12 = w 14 ∧ 0 ≤ τ.1 12 ∧ τ.1 12 ≤ 999
        have w2 : w 14 = ν.2 7 1 := w2
        omega
      · show 0 = w 15 ∧ (0 : Int) ≤ 0 ∧ (0 : Int) ≤ 100
        have := w1 15 (by decide) (by decide); omega
      · show 0 = w 16 ∧ (0 : Int) ≤ 0 ∧ (0 : Int) ≤ 9060
        have := w1 16 (by decide) (by decide); omega
      · show 0 = w 17 ∧ (0 : Int) ≤ 0 ∧ (0 : Int) ≤ 0
        have := w1 17 (by decide) (by decide); omega
      · show 0 = w 18 ∧ (0 : Int) ≤ 0 ∧ (0 : Int) ≤ 0
        have := w1 18 (by decide) (by decide); omega
      · have he : (e : Int) < τ.1 14 := he
        have q := qs e (by omega)
        show s e ≠ 3
        omega
      · have hj : (j : Int) < 0 := hj
        omega
      · have q := qg i hi
        show g i = va_up (va_up (ν.2 24) 0 0) 1 0 i ∧ (g i = 0 ∨ g i = 1) ∧ (g i = 1 → _)
        have : va_up (va_up (ν.2 24) 0 0) 1 0 i = 0 := by
          rcases (show i = 0 ∨ i = 1 by omega) with rfl | rfl <;> rfl
        refine ⟨by omega, Or.inl q, fun q1 => by omega⟩
      · have hj : (j : Int) < 0 := hj
        omega
      · have hj : (j : Int) < 0 := hj
        omega
    refine ⟨τ.1 14, sI (sI (sA (tb2 τ s b) 16 g) 24 0) 25 0, sA (sA (tb3 ν w k0 k1 k4 k2 k3) 24 (va_up (ν.2 24) 0 0)) 24 (va_up (va_up (ν.2 24) 0 0) 1 0), rfl, ?_, hR⟩
    rw [D4.1]
    rfl
  · rw [gd_t (by omega), if_neg (by omega), gd_t (by omega), if_neg (by omega)]
    refine ⟨-10 - f, sI (sI τ 0 (τ.1 10)) 7 0, sI ν 5 0, rfl, rfl, r1, ⟨rfl, by show (0 : Int) ≤ 0 ∧ (0 : Int) ≤ 240; decide, fun j hj => ?_⟩, ⟨⟨b2, ?_⟩, r7⟩, r2, r3, r4, r5, r6⟩
    · have hj : (j : Int) < 0 := hj
      omega
    · show -1 ≤ τ.1 10 ∧ τ.1 10 ≤ 240
      omega
