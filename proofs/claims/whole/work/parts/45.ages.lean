theorem lp_ex {α R : Type} (F : Nat → Int → α → Option R) (I : Nat → α → Prop) (N : Nat) (step : ∀ m k a, k < N → I k a → ∃ a', I (k + 1) a' ∧ F (m + 1) (k : Int) a = F m ((k + 1 : Nat) : Int) a') : ∀ d k m a, k + d = N → I k a → ∃ a', I N a' ∧ F (m + d + 1) (k : Int) a = F (m + 1) (N : Int) a' := by
  intro d
  induction d with
  | zero => intro k m a hk h; obtain rfl : k = N := by omega
            exact ⟨a, h, rfl⟩
  | succ d ih =>
    intro k m a hk h
    obtain ⟨a1, h1, e1⟩ := step (m + d + 1) k a (by omega) h
    obtain ⟨a2, h2, e2⟩ := ih (k + 1) m a1 (by omega) h1
    exact ⟨a2, h2, by rw [show m + (d + 1) + 1 = (m + d + 1) + 1 from by omega, e1, e2]⟩
theorem lp_exA {α R : Type} (F : Nat → Int → α → Option R) (I : Nat → α → Prop) (k0 N : Nat) (h0N : k0 ≤ N) (hN : N ≤ 99999) (a0 : α) (h0 : I k0 a0) (step : ∀ m k a, k0 ≤ k → k < N → I k a → ∃ a', I (k + 1) a' ∧ F (m + 1) (k : Int) a = F m ((k + 1 : Nat) : Int) a') : ∃ a' m, I N a' ∧ F FU (k0 : Int) a0 = F (m + 1) (N : Int) a' := by
  obtain ⟨a', ⟨-, h⟩, e⟩ := lp_ex F (fun k a => k0 ≤ k ∧ I k a) N (fun m k a hk q => by obtain ⟨a', h1, h2⟩ := step m k a q.1 hk q.2; exact ⟨a', ⟨by omega, h1⟩, h2⟩) (N - k0) k0 (99999 - (N - k0)) a0 (by omega) ⟨Nat.le_refl _, h0⟩
  rw [show 99999 - (N - k0) + (N - k0) + 1 = FU from by unfold FU; omega] at e
  exact ⟨a', _, h, e⟩
theorem sA_sA (σ : St) (k : Nat) (f g : Nat → Int) : sA (sA σ k f) k g = sA σ k g := by
  show (σ.1, va_up (va_up σ.2 k f) k g) = (σ.1, va_up σ.2 k g)
  rw [bx_uu]
/-- does an age fit with what is seen at k .. k + d - 1 -/
def ff (T A : Nat → Int) (x : Int) : Nat → Nat → Bool
  | _, 0 => true
  | k, d + 1 => decide (x / T k = A k) && ff T A x (k + 1) d
section
variable {σ μ : St} {c : Nat} {T A : Nat → Int}
def VC (c : Nat) (T A : Nat → Int) : Prop := c ≤ 6 ∧ ∀ i, i < c → (1 ≤ T i ∧ T i ≤ 9) ∧ (0 ≤ A i ∧ A i ≤ 30)
theorem dv_b {x t : Int} (hx : 0 ≤ x ∧ x ≤ 30) (ht : 1 ≤ t ∧ t ≤ 9) : 0 ≤ x / t ∧ x / t ≤ 30 := by
  constructor
  · exact Int.ediv_nonneg hx.1 (by omega)
  · exact Int.le_trans (Int.ediv_le_self t hx.1) hx.2
theorem fits_l (hC : VC c T A) (h1 : σ.1 24 = (c : Int)) (h2 : ∀ i, i < c → σ.2 17 i = T i ∧ σ.2 18 i = A i) {x : Int} (hx : 0 ≤ x ∧ x ≤ 30) : ∀ (d k m : Nat), k + d = c → pX2_fits_2 σ (m + d + 1) x (k : Int) = some (if ff T A x k d = true then 1 else 0) := by
  have h6 := hC.1
  intro d
  induction d with
  | zero =>
    intro k m hk
    rw [pX2_fits_2, gd_t (by omega), if_pos (by omega)]; rfl
  | succ d ih =>
    intro k m hk
    have q := hC.2 k (by omega)
    have r := dv_b hx q.1
    rw [show m + (d + 1) + 1 = (m + d + 1) + 1 from by omega, pX2_fits_2, Int.toNat_natCast, (h2 k (by omega)).1, (h2 k (by omega)).2]
    simp (disch := omega) only [gd_t, if_neg]
    by_cases hc : x / T k = A k
    · rw [if_pos hc, cast1, ih (k + 1) m (by omega)]
      simp [ff, hc]
    · rw [if_neg hc]
      simp [ff, hc]
theorem fits_e (hC : VC c T A) (h1 : σ.1 24 = (c : Int)) (h2 : ∀ i, i < c → σ.2 17 i = T i ∧ σ.2 18 i = A i) {x : Int} (hx : 0 ≤ x ∧ x ≤ 30) : pX2_fits σ x = some (if ff T A x 0 c = true then 1 else 0) := by
  have h6 := hC.1
  have := fits_l hC h1 h2 hx c 0 (99999 - c) (by omega)
  rw [show 99999 - c + c + 1 = FU from by unfold FU; omega] at this
  exact this
theorem could_l (hC : VC c T A) (h1 : μ.1 13 = (c : Int)) (h2 : ∀ i, i < c → μ.2 18 i = T i ∧ μ.2 19 i = A i) {x : Int} (hx : 0 ≤ x ∧ x ≤ 30) : ∀ (d k m : Nat) (b : Int), (b = 0 ∨ b = 1) → k + d = c → pX11_couldBe_4 μ (m + d + 1) x b (k : Int) = some (if b = 1 ∧ ff T A x k d = true then 1 else 0) := by
  have h6 := hC.1
  intro d
  induction d with
  | zero =>
    intro k m b hb hk
    rw [pX11_couldBe_4, gd_t (by omega), if_pos (by omega), gd_t hb]
    rcases hb with rfl | rfl <;> simp [ff]
  | succ d ih =>
    intro k m b hb hk
    have q := hC.2 k (by omega)
    have r := dv_b hx q.1
    rw [show m + (d + 1) + 1 = (m + d + 1) + 1 from by omega, pX11_couldBe_4, Int.toNat_natCast, (h2 k (by omega)).1, (h2 k (by omega)).2]
    unfold pX11_couldBe_37 pX11_couldBe_38
    simp (disch := omega) only [gd_t, if_neg]
    rcases hb with rfl | rfl
    · rw [if_pos rfl, cast1, ih (k + 1) m 0 (Or.inl rfl) (by omega)]
      simp
    · rw [if_neg (by decide)]
      by_cases hc : x / T k = A k
      · rw [if_pos hc, cast1, ih (k + 1) m 1 (Or.inr rfl) (by omega)]
        simp [ff, hc]
      · rw [if_neg hc, cast1, ih (k + 1) m 0 (Or.inl rfl) (by omega)]
        simp [ff, hc]
theorem could_m (hC : VC c T A) (h1 : μ.1 13 = (c : Int)) (h2 : ∀ i, i < c → μ.2 18 i = T i ∧ μ.2 19 i = A i) {x : Int} (hx : 0 ≤ x ∧ x ≤ 30) : pX11_couldBe μ x = some (if ff T A x 0 c = true then 1 else 0) := by
  have h6 := hC.1
  have := could_l hC h1 h2 hx c 0 (99999 - c) 1 (Or.inr rfl) (by omega)
  rw [show 99999 - c + c + 1 = FU from by unfold FU; omega] at this
  simp only [true_and] at this
  exact this
theorem fitting_e (hC : VC c T A) (h1 : σ.1 24 = (c : Int)) (h2 : ∀ i, i < c → σ.2 17 i = T i ∧ σ.2 18 i = A i) : pX2_fittingAges σ = some ((bsn (fun x => ff T A (x : Int) 0 c) 31 : Nat) : Int) := by
  have := lp_all (fun m i (b : Int) => pX2_fittingAges_4 σ m b i) (fun k => ((bsn (fun x => ff T A (x : Int) 0 c) k : Nat) : Int)) 31 (by omega) (fun m k hk => by
    have hlt := bsn_lt (fun x => ff T A (x : Int) 0 c) k
    have hl2 := bsn_lt31 (fun x => ff T A (x : Int) 0 c) (k := k) (by omega)
    rw [pX2_fittingAges_4, gd_t (by omega), if_neg (by omega), fits_e hC h1 h2 (by omega), Option.bind_some]
    unfold pX2_fittingAges_26
    by_cases hf : ff T A (k : Int) 0 c = true
    · rw [if_pos hf, gd_t (by decide), if_neg (by decide), zOr_bit (by omega) hlt]; simp only [bsn, hf]; rfl
    · rw [if_neg hf, gd_t (by decide), if_pos rfl, zOr_0 hl2]; simp only [bsn, hf]; rfl)
  refine Eq.trans this ?_
  rw [pX2_fittingAges_4, gd_t (by omega), if_pos (by omega)]
theorem ages_m (hC : VC c T A) (h1 : μ.1 13 = (c : Int)) (h2 : ∀ i, i < c → μ.2 18 i = T i ∧ μ.2 19 i = A i) : pX11_ages μ = some ((bsn (fun x => ff T A (x : Int) 0 c) 31 : Nat) : Int) := by
  have := lp_all (fun m i (b : Int) => pX11_ages_4 μ m b i) (fun k => ((bsn (fun x => ff T A (x : Int) 0 c) k : Nat) : Int)) 31 (by omega) (fun m k hk => by
    have hlt := bsn_lt (fun x => ff T A (x : Int) 0 c) k
    have hl2 := bsn_lt31 (fun x => ff T A (x : Int) 0 c) (k := k) (by omega)
    rw [pX11_ages_4, gd_t (by omega), if_neg (by omega), could_m hC h1 h2 (by omega), Option.bind_some]
    unfold pX11_ages_26
    by_cases hf : ff T A (k : Int) 0 c = true
    · rw [if_pos hf, gd_t (by decide), if_neg (by decide), zOr_bit (by omega) hlt]; simp only [bsn, hf]; rfl
    · rw [if_neg hf, gd_t (by decide), if_pos rfl, zOr_0 hl2]; simp only [bsn, hf]; rfl)
  refine Eq.trans this ?_
  rw [pX11_ages_4, gd_t (by omega), if_pos (by omega)]
/-- what is seen leaves an interval of ages -/
theorem ff_iv (T A : Nat → Int) : ∀ (d k : Nat), (∀ i, k ≤ i → i < k + d → 1 ≤ T i ∧ 0 ≤ A i) → ∃ lo hi : Nat, hi ≤ 31 ∧ ∀ x : Nat, x < 31 → ff T A (x : Int) k d = decide (lo ≤ x ∧ x < hi)
  | 0, k, _ => ⟨0, 31, Nat.le_refl _, fun x hx => by simp [ff, hx]⟩
  | d + 1, k, h => by
    obtain ⟨lo, hi, h1, h2⟩ := ff_iv T A d (k + 1) (fun i a b => h i (by omega) (by omega))
    have ht := h k (Nat.le_refl _) (by omega)
    have hm : 0 ≤ A k * T k := Int.mul_nonneg ht.2 (by omega)
    refine ⟨max lo (A k * T k).toNat, min hi (A k * T k + T k).toNat, by omega, fun x hx => ?_⟩
    rw [ff, h2 x hx]
    have e : ((x : Int) / T k = A k) ↔ (A k * T k ≤ (x : Int) ∧ (x : Int) < A k * T k + T k) := by
      have hp : 0 < T k := by omega
      constructor
      · intro q
        have a1 := (Int.le_ediv_iff_mul_le hp).mp (Int.le_of_eq q.symm)
        have a2 := (Int.ediv_lt_iff_lt_mul hp).mp (show (x : Int) / T k < A k + 1 by omega)
        rw [Int.add_mul, Int.one_mul] at a2
        exact ⟨a1, a2⟩
      · intro q
        have a1 := (Int.le_ediv_iff_mul_le hp).mpr q.1
        have a2 := (Int.ediv_lt_iff_lt_mul hp).mpr (show (x : Int) < (A k + 1) * T k by rw [Int.add_mul, Int.one_mul]; exact q.2)
        omega
    rw [← Bool.decide_and, decide_eq_decide, e]
    omega
theorem bitCount_iv : ∀ lo, lo < 32 → ∀ hi, hi < 32 → pJ6_bitCount_0f7a4 ((bsn (fun x => decide (lo ≤ x ∧ x < hi)) 31 : Nat) : Int) = some ((cnt (fun x => decide (lo ≤ x ∧ x < hi)) 31 : Nat) : Int) := by decide +kernel
theorem bitCount_a (hC : VC c T A) : pJ6_bitCount_0f7a4 ((bsn (fun x => ff T A (x : Int) 0 c) 31 : Nat) : Int) = some ((cnt (fun x => ff T A (x : Int) 0 c) 31 : Nat) : Int) := by
  obtain ⟨lo, hi, h1, h2⟩ := ff_iv T A c 0 (fun i _ q => ⟨(hC.2 i (by omega)).1.1, (hC.2 i (by omega)).2.1⟩)
  by_cases hl : lo < 32
  · rw [bsn_ext (Q := fun x => decide (lo ≤ x ∧ x < hi)) h2, cnt_ext (Q := fun x => decide (lo ≤ x ∧ x < hi)) h2]
    exact bitCount_iv lo hl hi (by omega)
  · have h3 : ∀ x : Nat, x < 31 → ff T A (x : Int) 0 c = decide (31 ≤ x ∧ x < 0) := fun x hx => by rw [h2 x hx, decide_eq_decide]; omega
    rw [bsn_ext (Q := fun x => decide (31 ≤ x ∧ x < 0)) h3, cnt_ext (Q := fun x => decide (31 ≤ x ∧ x < 0)) h3]
    exact bitCount_iv 31 (by decide) 0 (by decide)
theorem cnt_pos {P : Nat → Bool} : ∀ {n : Nat}, 1 ≤ cnt P n → ∃ k, k < n ∧ P k = true
  | 0, h => by simp [cnt] at h
  | n + 1, h => by
    by_cases hp : P n = true
    · exact ⟨n, by omega, hp⟩
    · rw [cnt, if_neg hp] at h
      obtain ⟨k, h1, h2⟩ := cnt_pos h
      exact ⟨k, by omega, h2⟩
theorem bit_of (P : Nat → Bool) {k : Nat} (hk : k < 31) : zAnd (zShr ((bsn P 31 : Nat) : Int) (k : Int)) 1 = if P k = true then 1 else 0 := by
  rw [zShr_n _ _ (bsn_lt31 P (Nat.le_refl _)) (by omega), zAnd1 _ (Nat.lt_of_le_of_lt (Nat.div_le_self _ _) (bsn_lt31 P (Nat.le_refl _))), bsn_bit]
  by_cases hp : P k = true
  · rw [if_pos ⟨hk, hp⟩, if_pos hp]; rfl
  · rw [if_neg (fun q => hp q.2), if_neg hp]; rfl
/-- the greatest part, as far as it matters -/
def gp (P : Nat → Bool) (t g : Int) : Prop := 0 ≤ g ∧ g ≤ 31 ∧ ((∃ k, k < 31 ∧ P k = true) → 1 ≤ g) ∧ (t = 1 → g ≤ 1)
theorem great_e (P : Nat → Bool) {t : Int} (ht : 1 ≤ t ∧ t ≤ 9) : ∃ g, pX2_greatestPart ((bsn P 31 : Nat) : Int) t = some g ∧ gp P t g := by
  obtain ⟨⟨g, p⟩, m, ⟨i1, i2, i3, i4⟩, e⟩ := lp_exA (fun m i (b : Int × Int) => pX2_greatestPart_7 m ((bsn P 31 : Nat) : Int) t b.1 b.2 i) (fun k b => (0 ≤ b.1 ∧ b.1 ≤ k) ∧ (0 ≤ b.2 ∧ b.2 ≤ k) ∧ ((∃ j, j < k ∧ P j = true) → 1 ≤ b.1) ∧ (t = 1 → b.1 ≤ 1)) 0 31 (by decide) (by decide) (0, 0) ⟨by decide, by decide, fun ⟨j, q, _⟩ => by omega, fun _ => by decide⟩ (fun m k b hk1 hk hI => by
    obtain ⟨i1, i2, i3, i4⟩ := hI
    have hm := Int.emod_lt_of_pos (k : Int) (show (0 : Int) < t by omega)
    have hm2 := Int.emod_nonneg (k : Int) (show t ≠ 0 by omega)
    have key : ∀ q : Int, (0 ≤ q ∧ q ≤ k) → (t = 1 → q = 0) → ∃ a' : Int × Int, ((0 ≤ a'.1 ∧ a'.1 ≤ ((k + 1 : Nat) : Int)) ∧ (0 ≤ a'.2 ∧ a'.2 ≤ ((k + 1 : Nat) : Int)) ∧ ((∃ j, j < k + 1 ∧ P j = true) → 1 ≤ a'.1) ∧ (t = 1 → a'.1 ≤ 1)) ∧ pX2_greatestPart_27 (pX2_greatestPart_7 m) ((bsn P 31 : Nat) : Int) t b.1 q (k : Int) = pX2_greatestPart_7 m ((bsn P 31 : Nat) : Int) t a'.1 a'.2 ((k + 1 : Nat) : Int) := by
      intro q hq hq1
      unfold pX2_greatestPart_27
      rw [bit_of P hk]
      by_cases hp : P k = true
      · rw [if_pos hp, gd_t (by omega)]
        refine ⟨(max b.1 (q + 1), q + 1), ⟨by dsimp only; omega, by dsimp only; omega, fun _ => by dsimp only; omega, fun h1 => by have := i4 h1; have := hq1 h1; dsimp only; omega⟩, rfl⟩
      · rw [if_neg hp, gd_t (by omega)]
        refine ⟨(max b.1 (q + 0), q + 0), ⟨by dsimp only; omega, by dsimp only; omega, fun ⟨j, hj, hpj⟩ => ?_, fun h1 => by have := i4 h1; have := hq1 h1; dsimp only; omega⟩, rfl⟩
        have : j < k := by
          rcases Nat.lt_or_ge j k with z | z
          · exact z
          · obtain rfl : j = k := by omega
            exact absurd hpj hp
        have := i3 ⟨j, this, hpj⟩
        dsimp only
        omega
    rw [pX2_greatestPart_7, gd_t (by omega), if_neg (by omega), gd_t (by omega), if_neg (by omega), gd_t (by omega), gd_t (by omega)]
    unfold pX2_greatestPart_25
    by_cases h0 : (k : Int) % t = 0
    · rw [if_pos h0]
      exact key 0 (by omega) (fun _ => rfl)
    · rw [if_neg h0]
      exact key b.2 i2 (fun h1 => absurd (by rw [h1]; omega) h0))
  refine ⟨g, ?_, ⟨i1.1, i1.2, i3, i4⟩⟩
  refine Eq.trans e ?_
  dsimp only
  rw [pX2_greatestPart_7, gd_t (by omega), if_pos (by omega)]
theorem best_e (P : Nat → Bool) : pX2_bestTest_15 σ FU ((bsn P 31 : Nat) : Int) (-1) ((cnt P 31 : Nat) : Int) 1 = some (if 2 ≤ cnt P 31 then 1 else -1) := by
  have hc := cnt_le P 31
  generalize hCC : cnt P 31 = C at hc ⊢
  have hpos : 1 ≤ C → ∃ k, k < 31 ∧ P k = true := fun h => cnt_pos (by omega)
  obtain ⟨⟨b, l⟩, m, ⟨i1, i2⟩, e⟩ := lp_exA (fun m i (b : Int × Int) => pX2_bestTest_15 σ m ((bsn P 31 : Nat) : Int) b.1 b.2 i) (fun k b => (k ≤ 1 → b.1 = -1 ∧ b.2 = (C : Int)) ∧ (2 ≤ k → (2 ≤ C → b.1 = 1 ∧ b.2 = 1) ∧ (¬ 2 ≤ C → b.1 = -1 ∧ b.2 = (C : Int)))) 1 10 (by decide) (by decide) (-1, (C : Int)) ⟨fun _ => ⟨rfl, rfl⟩, fun h => by omega⟩ (fun m k b hk1 hk hI => by
    obtain ⟨i1, i2⟩ := hI
    obtain ⟨g, hg, g1, g2, g3, g4⟩ := great_e P (t := (k : Int)) (by omega)
    have hl : 0 ≤ b.2 ∧ b.2 ≤ 31 := by
      by_cases h : k ≤ 1
      · have := i1 h; omega
      · have := i2 (by omega)
        by_cases h2 : 2 ≤ C
        · have := this.1 h2; omega
        · have := this.2 h2; omega
    rw [pX2_bestTest_15, gd_t (by omega), if_neg (by omega), hg, Option.bind_some]
    unfold pX2_bestTest_42
    rw [gd_t (by omega)]
    by_cases hlg : b.2 ≤ g
    · rw [if_pos hlg]
      refine ⟨(b.1, b.2), ⟨fun h => by omega, fun h => ?_⟩, rfl⟩
      by_cases h1 : k ≤ 1
      · have q := i1 h1
        refine ⟨fun h2 => ?_, fun h2 => q⟩
        have := g4 (by omega)
        omega
      · exact i2 (by omega)
    · rw [if_neg hlg]
      refine ⟨((k : Int), g), ⟨fun h => by omega, fun h => ?_⟩, rfl⟩
      by_cases h1 : k ≤ 1
      · have q := i1 h1
        refine ⟨fun h2 => ?_, fun h2 => ?_⟩
        · have := g3 (hpos (by omega))
          have := g4 (by omega)
          dsimp only
          omega
        · exfalso
          by_cases h3 : 1 ≤ C
          · have := g3 (hpos h3); omega
          · omega
      · exfalso
        have q := i2 (by omega)
        by_cases h2 : 2 ≤ C
        · have := q.1 h2
          have := g3 (hpos (by omega))
          omega
        · have := q.2 h2
          by_cases h3 : 1 ≤ C
          · have := g3 (hpos h3); omega
          · omega)
  refine Eq.trans e ?_
  have hb := i2 (by decide)
  dsimp only at hb
  rw [pX2_bestTest_15, gd_t (by omega), if_pos (by omega)]
  by_cases h2 : 2 ≤ C
  · rw [if_pos h2, (hb.1 h2).1]
  · rw [if_neg h2, (hb.2 h2).1]
/-- what the reference sees of the clues, whatever lies in its parts -/
def VU (μ : St) (c : Nat) (T A : Nat → Int) : Prop := μ.1 13 = (c : Int) ∧ ∀ i, i < c → μ.2 18 i = T i ∧ μ.2 19 i = A i
theorem VU.part (h : VU μ c T A) (p : Nat → Int) : VU (sA μ 20 p) c T A := h
theorem great_m (hC : VC c T A) (hU : VU μ c T A) {t : Int} (ht : 1 ≤ t ∧ t ≤ 9) : ∃ g p, pX11_greatestPart μ t = some (g, sA μ 20 p) ∧ gp (fun x => ff T A (x : Int) 0 c) t g := by
  obtain ⟨p0, m0, i0, e0⟩ := lp_exA (fun m i (p : Nat → Int) => pX11_greatestPart_4 m (sA μ 20 p) t 0 i) (fun k p => ∀ j, j < k → p j = 0) 0 31 (by decide) (by decide) (μ.2 20) (fun j h => by omega) (fun m k p hk1 hk hI => by
    rw [pX11_greatestPart_4, gd_t (by omega), if_neg (by omega), gd_t (by omega), Int.toNat_natCast]
    refine ⟨va_up p k 0, fun j hj => ?_, ?_⟩
    · rw [vu]
      by_cases h : j = k
      · rw [if_pos h]
      · rw [if_neg h]; exact hI j (by omega)
    · show pX11_greatestPart_4 m (sA (sA μ 20 p) 20 (va_up ((sA μ 20 p).2 20) k 0)) t 0 ((k : Int) + 1) = _
      rw [sA_sA, cast1]; rfl)
  obtain ⟨⟨g, p⟩, m, ⟨i1, i2, i3, i4⟩, e⟩ := lp_exA (fun m i (b : Int × (Nat → Int)) => pX11_greatestPart_25 m (sA μ 20 b.2) t b.1 i) (fun k b => (0 ≤ b.1 ∧ b.1 ≤ k) ∧ (∀ j, j < 31 → 0 ≤ b.2 j ∧ b.2 j ≤ k ∧ (t = 1 → k ≤ j → b.2 j = 0)) ∧ ((∃ j, j < k ∧ ff T A ((j : Nat) : Int) 0 c = true) → 1 ≤ b.1) ∧ (t = 1 → b.1 ≤ 1)) 0 31 (by decide) (by decide) (0, p0) ⟨by dsimp only; omega, fun j hj => by have := i0 j hj; dsimp only; omega, fun ⟨j, q, _⟩ => by omega, fun _ => by dsimp only; omega⟩ (fun m k b hk1 hk hI => by
    obtain ⟨i1, i2, i3, i4⟩ := hI
    have hd := dv_b (x := (k : Int)) (by omega) ht
    obtain ⟨j, hj⟩ := Int.eq_ofNat_of_zero_le hd.1
    have hq := i2 j (by omega)
    rw [pX11_greatestPart_25, gd_t (by omega), if_neg (by omega), could_m hC (hU.part b.2).1 (hU.part b.2).2 (by omega), Option.bind_some]
    unfold pX11_greatestPart_75 pX11_greatestPart_76
    by_cases hf : ff T A (k : Int) 0 c = true
    · rw [if_pos hf, gd_t (by decide), if_neg (by decide), hj, Int.toNat_natCast]
      have e1 : (sA μ 20 b.2).2 20 j = b.2 j := rfl
      have e2 : (sA (sA μ 20 b.2) 20 (va_up ((sA μ 20 b.2).2 20) j ((sA μ 20 b.2).2 20 j + 1))) = sA μ 20 (va_up b.2 j (b.2 j + 1)) := by rw [sA_sA]; rfl
      have e3 : (sA μ 20 (va_up b.2 j (b.2 j + 1))).2 20 j = b.2 j + 1 := by show va_up b.2 j (b.2 j + 1) j = _; rw [vu, if_pos rfl]
      have hj1 : t = 1 → b.2 j = 0 := fun h1 => hq.2.2 h1 (by rw [h1, Int.ediv_one] at hj; omega)
      have inv : ∀ i, i < 31 → 0 ≤ va_up b.2 j (b.2 j + 1) i ∧ va_up b.2 j (b.2 j + 1) i ≤ ((k + 1 : Nat) : Int) ∧ (t = 1 → k + 1 ≤ i → va_up b.2 j (b.2 j + 1) i = 0) := by
        intro i hi
        rw [vu]
        by_cases hij : i = j
        · rw [if_pos hij]
          refine ⟨by omega, by omega, fun h1 h2 => ?_⟩
          rw [h1, Int.ediv_one] at hj
          omega
        · rw [if_neg hij]
          have := i2 i hi
          exact ⟨this.1, by omega, fun h1 h2 => this.2.2 h1 (by omega)⟩
      simp (disch := omega) only [gd_t, nm, e2]
      rw [e3]
      by_cases hc : b.2 j + 1 ≤ b.1
      · rw [if_pos hc]
        exact ⟨(b.1, va_up b.2 j (b.2 j + 1)), ⟨by dsimp only; omega, inv, fun _ => by dsimp only; omega, i4⟩, rfl⟩
      · rw [if_neg hc]
        exact ⟨(b.2 j + 1, va_up b.2 j (b.2 j + 1)), ⟨by dsimp only; omega, inv, fun _ => by dsimp only; omega, fun h1 => by have := hj1 h1; dsimp only; omega⟩, rfl⟩
    · rw [if_neg hf, gd_t (by decide), if_pos rfl]
      refine ⟨b, ⟨by omega, fun i hi => ?_, fun ⟨i, hi, hfi⟩ => ?_, i4⟩, rfl⟩
      · have := i2 i hi
        exact ⟨this.1, by omega, fun h1 h2 => this.2.2 h1 (by omega)⟩
      · refine i3 ⟨i, ?_, hfi⟩
        rcases Nat.lt_or_ge i k with z | z
        · exact z
        · obtain rfl : i = k := by omega
          exact absurd hfi hf)
  refine ⟨g, p, ?_, ⟨i1.1, i1.2, i3, i4⟩⟩
  unfold pX11_greatestPart pX11_greatestPart_0
  have hs : sA μ 20 (μ.2 20) = μ := by
    show (μ.1, va_up μ.2 20 (μ.2 20)) = μ
    have : va_up μ.2 20 (μ.2 20) = μ.2 := by
      funext j
      show (if j = 20 then μ.2 20 else μ.2 j) = _
      split
      · rename_i h; rw [h]
      · rfl
    rw [this]
  rw [hs] at e0
  refine Eq.trans e0 ?_
  rw [pX11_greatestPart_4, gd_t (by omega), if_pos (by omega)]
  refine Eq.trans e ?_
  dsimp only
  rw [pX11_greatestPart_25, gd_t (by omega), if_pos (by omega)]
theorem test_m (hC : VC c T A) (hU : VU μ c T A) : ∃ p, pX11_testNext μ = some (if 2 ≤ cnt (fun x => ff T A (x : Int) 0 c) 31 then 1 else -1, sA μ 20 p) := by
  have hs : ∀ ν : St, sA ν 20 (ν.2 20) = ν := by
    intro ν
    show (ν.1, va_up ν.2 20 (ν.2 20)) = ν
    have : va_up ν.2 20 (ν.2 20) = ν.2 := by
      funext j
      show (if j = 20 then ν.2 20 else ν.2 j) = _
      split
      · rename_i h; rw [h]
      · rfl
    rw [this]
  have h1 := lp_all (fun m i (b : Int) => pX11_testNext_6 m μ (-1) b i) (fun k => ((cnt (fun x => ff T A (x : Int) 0 c) k : Nat) : Int)) 31 (by decide) (fun m k hk => by
    have hc := cnt_le (fun x => ff T A (x : Int) 0 c) k
    rw [pX11_testNext_6, gd_t (by omega), if_neg (by omega), could_m hC hU.1 hU.2 (by omega), Option.bind_some]
    unfold pX11_testNext_26
    by_cases hf : ff T A (k : Int) 0 c = true
    · rw [if_pos hf, gd_t (by decide), if_neg (by decide)]; simp only [cnt, hf]; rfl
    · rw [if_neg hf, gd_t (by decide), if_pos rfl]; simp only [cnt, hf]; simp)
  have hc := cnt_le (fun x => ff T A (x : Int) 0 c) 31
  generalize hCC : cnt (fun x => ff T A (x : Int) 0 c) 31 = C at h1 hc ⊢
  have hpos : 1 ≤ C → ∃ k, k < 31 ∧ ff T A ((k : Nat) : Int) 0 c = true := fun h => cnt_pos (P := fun x => ff T A (x : Int) 0 c) (by omega)
  obtain ⟨⟨b, l, p⟩, m, ⟨i1, i2⟩, e⟩ := lp_exA (fun m i (b : Int × Int × (Nat → Int)) => pX11_testNext_36 m (sA μ 20 b.2.2) b.1 b.2.1 i) (fun k b => (k ≤ 1 → b.1 = -1 ∧ b.2.1 = (C : Int)) ∧ (2 ≤ k → (2 ≤ C → b.1 = 1 ∧ b.2.1 = 1) ∧ (¬ 2 ≤ C → b.1 = -1 ∧ b.2.1 = (C : Int)))) 1 10 (by decide) (by decide) (-1, (C : Int), μ.2 20) ⟨fun _ => ⟨rfl, rfl⟩, fun h => by omega⟩ (fun m k b hk1 hk hI => by
    obtain ⟨i1, i2⟩ := hI
    obtain ⟨g, p', hg, g1, g2, g3, g4⟩ := great_m hC (hU.part b.2.2) (t := (k : Int)) (by omega)
    rw [sA_sA] at hg
    have hl : 0 ≤ b.2.1 ∧ b.2.1 ≤ 31 := by
      by_cases h : k ≤ 1
      · have := i1 h; omega
      · have := i2 (by omega)
        by_cases h2 : 2 ≤ C
        · have := this.1 h2; omega
        · have := this.2 h2; omega
    rw [pX11_testNext_36, gd_t (by omega), if_neg (by omega), hg, Option.bind_some]
    unfold pX11_testNext_60 pX11_testNext_73
    dsimp only [nm]
    rw [gd_t (by omega)]
    by_cases hlg : b.2.1 ≤ g
    · rw [if_pos hlg, gd_t (by omega), if_pos hlg]
      refine ⟨(b.1, b.2.1, p'), ⟨fun h => by omega, fun h => ?_⟩, rfl⟩
      by_cases h1 : k ≤ 1
      · have q := i1 h1
        refine ⟨fun h2 => ?_, fun h2 => q⟩
        have := g4 (by omega)
        omega
      · exact i2 (by omega)
    · rw [if_neg hlg, gd_t (by omega), if_neg hlg]
      refine ⟨((k : Int), g, p'), ⟨fun h => by omega, fun h => ?_⟩, rfl⟩
      by_cases h1 : k ≤ 1
      · have q := i1 h1
        refine ⟨fun h2 => ?_, fun h2 => ?_⟩
        · have := g3 (hpos (by omega))
          have := g4 (by omega)
          dsimp only
          omega
        · exfalso
          by_cases h3 : 1 ≤ C
          · have := g3 (hpos h3); omega
          · omega
      · exfalso
        have q := i2 (by omega)
        by_cases h2 : 2 ≤ C
        · have := q.1 h2
          have := g3 (hpos (by omega))
          omega
        · have := q.2 h2
          by_cases h3 : 1 ≤ C
          · have := g3 (hpos h3); omega
          · omega)
  refine ⟨p, ?_⟩
  rw [hs] at e
  unfold pX11_testNext pX11_testNext_0
  refine Eq.trans h1 ?_
  rw [pX11_testNext_6, gd_t (by omega), if_pos (by omega)]
  refine Eq.trans e ?_
  have hb := i2 (by decide)
  dsimp only at hb
  rw [pX11_testNext_36, gd_t (by omega), if_pos (by omega)]
  by_cases h2 : 2 ≤ C
  · rw [if_pos h2, (hb.1 h2).1]
  · rw [if_neg h2, (hb.2 h2).1]
theorem clues_v (h : Rel σ μ) : ∃ c : Nat, VC c (σ.2 17) (σ.2 18) ∧ σ.1 24 = (c : Int) ∧ VU μ c (σ.2 17) (σ.2 18) := by
  obtain ⟨-, -, -, -, -, -, ⟨c1, c2, c3⟩, -⟩ := id h
  obtain ⟨c, hc⟩ := Int.eq_ofNat_of_zero_le c2.1
  refine ⟨c, ⟨by omega, fun i hi => ?_⟩, hc, by omega, fun i hi => ?_⟩
  · have := c3 i (by omega); omega
  · have := c3 i (by omega); exact ⟨this.1.1.symm, this.2.1.symm⟩
theorem ages_q (h : Rel σ μ) : AlR (pX10_ages σ) (pX11_ages μ) := by
  obtain ⟨c, hC, h1, hU⟩ := clues_v h
  refine ⟨_, ?_, ages_m hC hU.1 hU.2⟩
  unfold pX10_ages pX10_ages_0
  rw [fitting_e hC h1 (fun _ _ => ⟨rfl, rfl⟩)]
  rfl
theorem testNext_q (h : Rel σ μ) : ∃ r ν, pX10_testNext σ = some r ∧ pX11_testNext μ = some (r, ν) ∧ Rel σ ν := by
  obtain ⟨c, hC, h1, hU⟩ := clues_v h
  obtain ⟨p, hp⟩ := test_m hC hU
  obtain ⟨hT, hX, hF, hN, hP, hI, hCc, hB⟩ := id h
  refine ⟨_, _, ?_, hp, hT, hX, hF, hN, hP, hI, hCc, hB⟩
  unfold pX10_testNext pX10_testNext_0 pX2_bestTest pX2_bestTest_0
  rw [fitting_e hC h1 (fun _ _ => ⟨rfl, rfl⟩), Option.bind_some, bitCount_a hC, Option.bind_some, best_e]
  rfl
end
