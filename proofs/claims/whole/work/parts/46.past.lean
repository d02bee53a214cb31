theorem sI_sI (σ : St) (k : Nat) (v w : Int) : sI (sI σ k v) k w = sI σ k w := by
  show (va_up (va_up σ.1 k v) k w, σ.2) = (va_up σ.1 k w, σ.2)
  rw [bx_uu]
theorem sA_sI (σ : St) (k j : Nat) (v : Int) (g : Nat → Int) : sA (sI σ k v) j g = sI (sA σ j g) k v := rfl
theorem sA_same (σ : St) (k : Nat) : sA σ k (σ.2 k) = σ := by
  show (σ.1, va_up σ.2 k (σ.2 k)) = σ
  have : va_up σ.2 k (σ.2 k) = σ.2 := by
    funext j
    show (if j = k then σ.2 k else σ.2 j) = _
    split
    · rename_i h; rw [h]
    · rfl
  rw [this]
theorem M20.congr {n : Int} {r w r' w' : Nat → Int} (h7 : n ≤ 7) (hr : ∀ j, j < 20 → r' j = r j) (hw : ∀ j, j < 19 → w' j = w j) (h : M20 n r w) : M20 n r' w' := by
  obtain ⟨h1, h2, h3, h4, h5, h6, h8⟩ := h
  unfold M20
  rw [hr 14 (by decide), hr 15 (by decide), hr 16 (by decide), hr 17 (by decide), hr 18 (by decide), hr 19 (by decide), hw 14 (by decide), hw 15 (by decide), hw 16 (by decide), hw 17 (by decide), hw 18 (by decide)]
  refine ⟨fun e he => ?_, h2, h3, h4, h5, h6, ?_⟩
  · rw [hr e (by omega), hw e (by omega), hr (7 + e) (by omega), hw (7 + e) (by omega)]
    exact h1 e he
  · rcases h8 with ⟨a, b, c⟩ | ⟨k, a, b, c, d, e⟩
    · exact Or.inl ⟨a, fun e he => by rw [hr e (by omega)]; exact b e he, c⟩
    · exact Or.inr ⟨k, a, b, by rw [hr k (by omega)]; exact c, fun e he q => d e he (by rw [hr e (by omega)] at q; exact q), e⟩
/-- a row of twenty, laid at p -/
def row (σ : St) (R : Nat → Int) (p : Nat) : Nat → Int := va_up (va_up (va_up (va_up (va_up (va_up (va_cpy (σ.2 12) (va_cpy (σ.2 11) R 0 p 7) 0 (p + 7) 7) (p + 14) (σ.1 16)) (p + 15) (σ.1 17)) (p + 16) (σ.1 18)) (p + 17) (σ.1 19)) (p + 18) (σ.1 20)) (p + 19) (σ.1 21)
theorem row_in (σ : St) (R : Nat → Int) (p : Nat) {j : Nat} (hj : j < 20) : row σ R p (p + j) = mv σ j := by
  unfold row
  by_cases h1 : j < 7
  · simp (disch := omega) only [vu, va_cpy, if_neg, if_pos]
    rw [mv_s σ h1, show 0 + (p + j - p) = j from by omega]
  · by_cases h2 : j < 14
    · simp (disch := omega) only [vu, va_cpy, if_neg, if_pos]
      unfold mv
      rw [if_neg h1, if_pos h2, show 0 + (p + j - (p + 7)) = j - 7 from by omega]
    · rcases (show j = 14 ∨ j = 15 ∨ j = 16 ∨ j = 17 ∨ j = 18 ∨ j = 19 by omega) with rfl | rfl | rfl | rfl | rfl | rfl
      all_goals (simp (disch := omega) only [vu, if_neg, if_pos, ite_true]; rfl)
theorem row_out (σ : St) (R : Nat → Int) (p : Nat) {i : Nat} (hi : i < p ∨ p + 20 ≤ i) : row σ R p i = R i := by
  unfold row
  simp (disch := omega) only [vu, va_cpy, if_neg]
theorem save19_e (σ : St) {p : Nat} (hp : p ≤ 380) : pX4_saveTo_a19 σ (p : Int) = some (sA σ 13 (row σ (σ.2 13) p)) := by
  have e7 : Int.toNat ((p : Int) + 7) = p + 7 := by omega
  have e14 : Int.toNat ((p : Int) + 14) = p + 14 := by omega
  have e15 : Int.toNat ((p : Int) + 14 + 1) = p + 15 := by omega
  have e16 : Int.toNat ((p : Int) + 14 + 2) = p + 16 := by omega
  have e17 : Int.toNat ((p : Int) + 14 + 3) = p + 17 := by omega
  have e18 : Int.toNat ((p : Int) + 14 + 4) = p + 18 := by omega
  have e19 : Int.toNat ((p : Int) + 14 + 5) = p + 19 := by omega
  unfold pX4_saveTo_a19 pX4_saveTo_a19_0 pX4_isRow_a19 pX4_isRow_a19_0 row
  simp (disch := omega) only [gd_t, if_neg, if_pos, Option.bind_some, nm, sA_1, sA_2, sA_sA, e7, e14, e15, e16, e17, e18, e19, Int.toNat_natCast, ite_true]
theorem save21_e (σ : St) {p : Nat} (hp : p ≤ 20) : pX4_saveTo_a21 σ (p : Int) = some (sA σ 14 (row σ (σ.2 14) p)) := by
  have e7 : Int.toNat ((p : Int) + 7) = p + 7 := by omega
  have e14 : Int.toNat ((p : Int) + 14) = p + 14 := by omega
  have e15 : Int.toNat ((p : Int) + 14 + 1) = p + 15 := by omega
  have e16 : Int.toNat ((p : Int) + 14 + 2) = p + 16 := by omega
  have e17 : Int.toNat ((p : Int) + 14 + 3) = p + 17 := by omega
  have e18 : Int.toNat ((p : Int) + 14 + 4) = p + 18 := by omega
  have e19 : Int.toNat ((p : Int) + 14 + 5) = p + 19 := by omega
  unfold pX4_saveTo_a21 pX4_saveTo_a21_0 pX4_isRow_a21 pX4_isRow_a21_0 row
  simp (disch := omega) only [gd_t, if_neg, if_pos, Option.bind_some, nm, sA_1, sA_2, sA_sA, e7, e14, e15, e16, e17, e18, e19, Int.toNat_natCast, ite_true]
/-- the now becomes the row at p of R -/
def unrow (σ : St) (R : Nat → Int) (p : Nat) : St := sI (sI (sI (sI (sI (sI (sA (sA σ 11 (va_cpy R (σ.2 11) p 0 7)) 12 (va_cpy R (σ.2 12) (p + 7) 0 7)) 16 (R (p + 14))) 17 (R (p + 15))) 18 (R (p + 16))) 19 (R (p + 17))) 20 (R (p + 18))) 21 (R (p + 19))
theorem unrow_mv (σ : St) (R : Nat → Int) (p : Nat) {j : Nat} (hj : j < 20) : mv (unrow σ R p) j = R (p + j) := by
  by_cases h1 : j < 7
  · rw [mv_s _ h1]
    show va_cpy R (σ.2 11) p 0 7 j = _
    unfold va_cpy
    rw [if_pos (by omega), Nat.sub_zero]
  · by_cases h2 : j < 14
    · unfold mv
      rw [if_neg h1, if_pos h2]
      show va_cpy R (σ.2 12) (p + 7) 0 7 (j - 7) = _
      unfold va_cpy
      rw [if_pos (by omega)]
      congr 1; omega
    · rcases (show j = 14 ∨ j = 15 ∨ j = 16 ∨ j = 17 ∨ j = 18 ∨ j = 19 by omega) with rfl | rfl | rfl | rfl | rfl | rfl <;> rfl
theorem load19_e (σ : St) {p : Nat} (hp : p ≤ 380) : pX4_loadFrom_a19 σ (p : Int) = some (unrow σ (σ.2 13) p) := by
  have e7 : Int.toNat ((p : Int) + 7) = p + 7 := by omega
  have e14 : Int.toNat ((p : Int) + 14) = p + 14 := by omega
  have e15 : Int.toNat ((p : Int) + 14 + 1) = p + 15 := by omega
  have e16 : Int.toNat ((p : Int) + 14 + 2) = p + 16 := by omega
  have e17 : Int.toNat ((p : Int) + 14 + 3) = p + 17 := by omega
  have e18 : Int.toNat ((p : Int) + 14 + 4) = p + 18 := by omega
  have e19 : Int.toNat ((p : Int) + 14 + 5) = p + 19 := by omega
  unfold pX4_loadFrom_a19 pX4_loadFrom_a19_0 pX4_isRow_a19 pX4_isRow_a19_0 unrow
  simp (disch := omega) only [gd_t, if_neg, if_pos, Option.bind_some, nm, sA_1, sA_2, sI_2, e7, e14, e15, e16, e17, e18, e19, Int.toNat_natCast, ite_true]
theorem load21_e (σ : St) {p : Nat} (hp : p ≤ 20) : pX4_loadFrom_a21 σ (p : Int) = some (unrow σ (σ.2 14) p) := by
  have e7 : Int.toNat ((p : Int) + 7) = p + 7 := by omega
  have e14 : Int.toNat ((p : Int) + 14) = p + 14 := by omega
  have e15 : Int.toNat ((p : Int) + 14 + 1) = p + 15 := by omega
  have e16 : Int.toNat ((p : Int) + 14 + 2) = p + 16 := by omega
  have e17 : Int.toNat ((p : Int) + 14 + 3) = p + 17 := by omega
  have e18 : Int.toNat ((p : Int) + 14 + 4) = p + 18 := by omega
  have e19 : Int.toNat ((p : Int) + 14 + 5) = p + 19 := by omega
  unfold pX4_loadFrom_a21 pX4_loadFrom_a21_0 pX4_isRow_a21 pX4_isRow_a21_0 unrow
  simp (disch := omega) only [gd_t, if_neg, if_pos, Option.bind_some, nm, sA_1, sA_2, sI_2, e7, e14, e15, e16, e17, e18, e19, Int.toNat_natCast, ite_true]
/-! the reference's past -/
theorem rem52 (ν : St) {u : Nat} (hu : ν.1 12 = (u : Int)) (hu2 : u ≤ 19) : ∃ g, pX11_remember_52 FU ν 0 = some (sI (sA ν 12 g) 12 ((u : Int) + 1)) ∧ (∀ k, k < 19 → g (19 * u + k) = ν.2 5 k) ∧ (∀ i, i < 19 * u → g i = ν.2 12 i) := by
  obtain ⟨g, m, ⟨i1, i2⟩, e⟩ := lp_exA (fun m i (g : Nat → Int) => pX11_remember_52 m (sA ν 12 g) i) (fun k g => (∀ j, j < k → g (19 * u + j) = ν.2 5 j) ∧ (∀ i, i < 19 * u → g i = ν.2 12 i)) 0 19 (by decide) (by decide) (ν.2 12) ⟨fun j h => by omega, fun _ _ => rfl⟩ (fun m k g hk1 hk hI => by
    obtain ⟨i1, i2⟩ := hI
    have e1 : Int.toNat (19 * (u : Int) + (k : Int)) = 19 * u + k := by omega
    refine ⟨va_up g (19 * u + k) (ν.2 5 k), ⟨fun j hj => ?_, fun i hi => ?_⟩, ?_⟩
    · rw [vu]
      by_cases h : j = k
      · rw [if_pos (by omega), h]
      · rw [if_neg (by omega)]; exact i1 j (by omega)
    · rw [vu, if_neg (by omega)]; exact i2 i hi
    · rw [pX11_remember_52]
      simp (disch := omega) only [gd_t, if_neg, if_pos, nm, sA_1, sA_2, sA_sA, hu, e1, Int.toNat_natCast, cast1, ite_true])
  refine ⟨g, ?_, i1, i2⟩
  rw [sA_same] at e
  refine Eq.trans e ?_
  rw [pX11_remember_52]
  simp (disch := omega) only [gd_t, if_pos, nm, sA_1, hu]
theorem rem12 (ν : St) : ∃ (g : Nat → Int) (m : Nat), pX11_remember_12 FU ν 19 = pX11_remember_12 (m + 1) (sA ν 12 g) 380 ∧ (∀ i, i < 361 → g i = ν.2 12 (i + 19)) := by
  obtain ⟨g, m, ⟨i1, i2⟩, e⟩ := lp_exA (fun m i (g : Nat → Int) => pX11_remember_12 m (sA ν 12 g) i) (fun k g => (∀ i, i + 19 < k → g i = ν.2 12 (i + 19)) ∧ (∀ i, k ≤ i + 19 → g i = ν.2 12 i)) 19 380 (by decide) (by decide) (ν.2 12) ⟨fun i h => by omega, fun _ _ => rfl⟩ (fun m k g hk1 hk hI => by
    obtain ⟨i1, i2⟩ := hI
    have e1 : Int.toNat ((k : Int) - 19) = k - 19 := by omega
    refine ⟨va_up g (k - 19) (g k), ⟨fun i hi => ?_, fun i hi => ?_⟩, ?_⟩
    · rw [vu]
      by_cases h : i = k - 19
      · rw [if_pos h, i2 k (by omega), show i + 19 = k from by omega]
      · rw [if_neg h]; exact i1 i (by omega)
    · rw [vu, if_neg (by omega)]; exact i2 i (by omega)
    · rw [pX11_remember_12]
      simp (disch := omega) only [gd_t, if_neg, if_pos, nm, sA_1, sA_2, sA_sA, e1, Int.toNat_natCast, cast1, ite_true])
  rw [sA_same] at e
  exact ⟨g, m, e, fun i hi => i1 i (by omega)⟩
theorem nm_v {α β : Type} (v : α) (f : α → Option β) : nm v f = f v := Eq.trans (Eq.refl _) (Eq.refl _)
theorem rem_e3 (μ : St) (hu : μ.1 12 = 20) (g1 : Nat → Int) (m : Nat) : pX11_remember_12 (m + 1) (sA μ 12 g1) 380 = pX11_remember_50 (sI (sA μ 12 g1) 12 19) := by
  rw [pX11_remember_12, gd_t (by omega), if_pos (by omega), sA_1, hu, show (20 : Int) - 1 = 19 from rfl, nm_v]
theorem rem_e4 (ν : St) (hu : ν.1 12 = 19) : ∃ g, pX11_remember_50 ν = some (sI (sA ν 12 g) 12 20) ∧ (∀ k, k < 19 → g (361 + k) = ν.2 5 k) ∧ (∀ i, i < 361 → g i = ν.2 12 i) := by
  obtain ⟨g, e, q1, q2⟩ := rem52 ν (u := 19) hu (by decide)
  refine ⟨g, e, fun k hk => ?_, fun i hi => q2 i (by omega)⟩
  have := q1 k hk
  rw [show 19 * 19 + k = 361 + k from by omega] at this
  exact this
theorem rem_e5 (μ : St) (g1 g2 : Nat → Int) : sI (sA (sI (sA μ 12 g1) 12 19) 12 g2) 12 20 = sI (sA μ 12 g2) 12 20 := by rw [sA_sI, sA_sA, sI_sI]
theorem rem_e6 (μ : St) (g1 : Nat → Int) : (sI (sA μ 12 g1) 12 19).1 12 = 19 := rfl
theorem rem_e7 (μ : St) (g1 : Nat → Int) : (sI (sA μ 12 g1) 12 19).2 5 = μ.2 5 := rfl
theorem rem_e8 (μ : St) (g1 : Nat → Int) : (sI (sA μ 12 g1) 12 19).2 12 = g1 := rfl
theorem remember_20 (μ : St) (hu : μ.1 12 = 20) : ∃ g, pX11_remember μ = some (sI (sA μ 12 g) 12 20) ∧ (∀ k, k < 19 → g (361 + k) = μ.2 5 k) ∧ (∀ i, i < 361 → g i = μ.2 12 (i + 19)) := by
  obtain ⟨g1, m, e1, q1⟩ := rem12 μ
  obtain ⟨g2, e2, q2, q3⟩ := rem_e4 (sI (sA μ 12 g1) 12 19) (rem_e6 μ g1)
  rw [rem_e5] at e2
  rw [rem_e7] at q2
  rw [rem_e8] at q3
  refine ⟨g2, ?_, q2, fun i hi => by rw [q3 i hi, q1 i hi]⟩
  unfold pX11_remember pX11_remember_0
  rw [gd_t (by omega), if_pos hu, e1, rem_e3 μ hu, e2]
theorem remember_lt (μ : St) {u : Nat} (hu : μ.1 12 = (u : Int)) (hu2 : u < 20) : ∃ g, pX11_remember μ = some (sI (sA μ 12 g) 12 ((u + 1 : Nat) : Int)) ∧ (∀ k, k < 19 → g (19 * u + k) = μ.2 5 k) ∧ (∀ i, i < 19 * u → g i = μ.2 12 i) := by
  obtain ⟨g, e, q1, q2⟩ := rem52 μ hu (by omega)
  refine ⟨g, ?_, q1, q2⟩
  unfold pX11_remember pX11_remember_0 pX11_remember_50
  rw [gd_t (by omega), if_neg (by omega), e]
  rfl
theorem remember_m (μ : St) {u : Nat} (hu : μ.1 12 = (u : Int)) (hu2 : u ≤ 20) : ∃ g, pX11_remember μ = some (sI (sA μ 12 g) 12 ((min (u + 1) 20 : Nat) : Int)) ∧
    (u < 20 → (∀ k, k < 19 → g (19 * u + k) = μ.2 5 k) ∧ (∀ i, i < 19 * u → g i = μ.2 12 i)) ∧
    (u = 20 → (∀ k, k < 19 → g (361 + k) = μ.2 5 k) ∧ (∀ i, i < 361 → g i = μ.2 12 (i + 19))) := by
  by_cases h : u = 20
  · obtain ⟨g, e, q⟩ := remember_20 μ (by omega)
    exact ⟨g, by rw [e, h]; rfl, fun h' => by omega, fun _ => q⟩
  · obtain ⟨g, e, q⟩ := remember_lt μ hu (by omega)
    exact ⟨g, by rw [e, show min (u + 1) 20 = u + 1 from by omega], fun _ => q, fun h' => absurd h' h⟩
theorem remember_e (σ : St) {o c : Nat} (ho : σ.1 22 = (o : Int)) (ho2 : o ≤ 19) (hc : σ.1 23 = (c : Int)) (hc2 : c ≤ 20) : pX5_remember σ = some (if c = 20 then sI (sA σ 13 (row σ (σ.2 13) (20 * ((o + c) % 20)))) 22 (((o + 1) % 20 : Nat) : Int) else sI (sA σ 13 (row σ (σ.2 13) (20 * ((o + c) % 20)))) 23 ((c + 1 : Nat) : Int)) := by
  unfold pX5_remember pX5_remember_0
  have e1 : (((o : Int) + (c : Int)) % 20) * 20 = ((20 * ((o + c) % 20) : Nat) : Int) := by omega
  have e2 : ((o : Int) + 1) % 20 = (((o + 1) % 20 : Nat) : Int) := by omega
  rw [ho, hc, gd_t (by omega), e1, save19_e σ (by omega), Option.bind_some, sA_1, ho, hc, gd_t (by omega)]
  by_cases h : c = 20
  · rw [if_pos (by omega), gd_t (by omega), if_pos h, e2]; rfl
  · rw [if_neg (by omega), if_neg h]; rfl
/-- what a remembering leaves as it is -/
def FrE (σ τ : St) : Prop := (∀ k, k ≠ 22 → k ≠ 23 → τ.1 k = σ.1 k) ∧ (∀ k, k ≠ 13 → τ.2 k = σ.2 k)
def FrM (μ ν : St) : Prop := (∀ k, k ≠ 12 → ν.1 k = μ.1 k) ∧ (∀ k, k ≠ 12 → ν.2 k = μ.2 k)
theorem remember_q {σ μ : St} (h : Rel σ μ) : ∃ τ ν, pX5_remember σ = some τ ∧ pX11_remember μ = some ν ∧ Rel τ ν ∧ FrE σ τ ∧ FrM μ ν := by
  obtain ⟨hT, hX, hF, hN, ⟨p1, p2, p3, p4⟩, hI, hC, hB⟩ := id h
  have h7 : σ.1 5 ≤ 7 := hT.2.2.2.2.2.2.1.2
  obtain ⟨o, ho⟩ := Int.eq_ofNat_of_zero_le p1.1
  obtain ⟨c, hc⟩ := Int.eq_ofNat_of_zero_le p3.1
  have eE := remember_e σ ho (by omega) hc (by omega)
  obtain ⟨g, eM, g1, g2⟩ := remember_m μ (u := c) (by omega) (by omega)
  rw [ho] at p4
  simp only [Int.toNat_natCast] at p4
  by_cases h20 : c = 20
  · rw [if_pos h20] at eE
    refine ⟨_, _, eE, eM, ⟨hT, hX, hF, hN, ⟨?_, ?_, ?_, ?_⟩, hI, hC, hB⟩, ⟨fun k h1 h2 => ?_, fun k h1 => ?_⟩, ⟨fun k h1 => ?_, fun k h1 => ?_⟩⟩
    · show 0 ≤ (((o + 1) % 20 : Nat) : Int) ∧ (((o + 1) % 20 : Nat) : Int) ≤ 19
      omega
    · show σ.1 23 = ((min (c + 1) 20 : Nat) : Int)
      omega
    · exact p3
    · intro i hi
      have hi : (i : Int) < σ.1 23 := hi
      show M20 (σ.1 5) (fun j => row σ (σ.2 13) (20 * ((o + c) % 20)) (20 * (((((o + 1) % 20 : Nat) : Int).toNat + i) % 20) + j)) (fun j => g (19 * i + j))
      rw [Int.toNat_natCast]
      by_cases h19 : i = 19
      · refine M20.congr h7 (fun j hj => ?_) (fun j hj => ?_) (hN.m20 h7)
        · rw [show 20 * (((o + 1) % 20 + i) % 20) + j = 20 * ((o + c) % 20) + j from by omega]
          exact row_in σ _ _ hj
        · rw [show 19 * i + j = 361 + j from by omega]
          exact (g2 h20).1 j hj
      · refine M20.congr h7 (fun j hj => ?_) (fun j hj => ?_) (p4 (i + 1) (by omega))
        · rw [row_out σ _ _ (by omega), show 20 * (((o + 1) % 20 + i) % 20) + j = 20 * ((o + (i + 1)) % 20) + j from by omega]
        · rw [(g2 h20).2 _ (by omega), show 19 * i + j + 19 = 19 * (i + 1) + j from by omega]
    · show va_up σ.1 22 _ k = _
      rw [vu, if_neg h1]
    · show va_up σ.2 13 _ k = _
      exact if_neg h1
    · show va_up μ.1 12 _ k = _
      rw [vu, if_neg h1]
    · show va_up μ.2 12 _ k = _
      exact if_neg h1
  · rw [if_neg h20] at eE
    refine ⟨_, _, eE, eM, ⟨hT, hX, hF, hN, ⟨?_, ?_, ?_, ?_⟩, hI, hC, hB⟩, ⟨fun k h1 h2 => ?_, fun k h1 => ?_⟩, ⟨fun k h1 => ?_, fun k h1 => ?_⟩⟩
    · exact p1
    · show ((c + 1 : Nat) : Int) = ((min (c + 1) 20 : Nat) : Int)
      omega
    · show 0 ≤ ((c + 1 : Nat) : Int) ∧ ((c + 1 : Nat) : Int) ≤ 20
      omega
    · intro i hi
      have hi : (i : Int) < ((c + 1 : Nat) : Int) := hi
      show M20 (σ.1 5) (fun j => row σ (σ.2 13) (20 * ((o + c) % 20)) (20 * (((σ.1 22).toNat + i) % 20) + j)) (fun j => g (19 * i + j))
      rw [ho, Int.toNat_natCast]
      by_cases hic : i = c
      · subst hic
        exact M20.congr h7 (fun j hj => row_in σ _ _ hj) (fun j hj => (g1 (by omega)).1 j hj) (hN.m20 h7)
      · refine M20.congr h7 (fun j hj => ?_) (fun j hj => ?_) (p4 i (by omega))
        · rw [row_out σ _ _ (by omega)]
        · rw [(g1 (by omega)).2 _ (by omega)]
    · show va_up σ.1 23 _ k = _
      rw [vu, if_neg h2]
    · show va_up σ.2 13 _ k = _
      exact if_neg h1
    · show va_up μ.1 12 _ k = _
      rw [vu, if_neg h1]
    · show va_up μ.2 12 _ k = _
      exact if_neg h1
