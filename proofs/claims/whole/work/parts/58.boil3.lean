section
variable {μ : St}
theorem ld_b {T : Nat → Int} (hT : ∀ j, 0 ≤ T j ∧ T j ≤ 30) : ∀ (j a p : Nat), 0 ≤ ld T j a p ∧ ld T j a p ≤ 30 * j
  | 0, a, p => by simp [ld]
  | j + 1, a, p => by
    have := ld_b hT j (a / 3) p
    have := hT j
    rw [ld]
    split <;> omega
theorem place135 (ν : St) (hl : ∀ p, p < 3 → 0 ≤ ν.2 15 p ∧ ν.2 15 p ≤ 1000) : pX11_placeBy_135 FU ν 0 0 = some (mx3 (ν.2 15), ν) := by
  have h0 := hl 0 (by decide)
  have h1 := hl 1 (by decide)
  have h2 := hl 2 (by decide)
  have step : ∀ (m k : Nat) (x : Int), k < 3 → 0 ≤ x ∧ x ≤ 1000 → pX11_placeBy_135 (m + 1) ν x (k : Int) = pX11_placeBy_135 m ν (max x (ν.2 15 k)) ((k + 1 : Nat) : Int) := by
    intro m k x hk hx
    have := hl k hk
    rw [pX11_placeBy_135, gd_t (by omega), if_neg (by omega), gd_t (by omega), Int.toNat_natCast, gd_t (by omega), gd_t (by omega)]
    unfold pX11_placeBy_165
    by_cases hc : ν.2 15 k ≤ x
    · rw [if_pos hc, cast1, show max x (ν.2 15 k) = x from by omega]
    · rw [if_neg hc, cast1, show max x (ν.2 15 k) = ν.2 15 k from by omega]
  have s0 := step 99999 0 0 (by decide) (by decide)
  have s1 := step 99998 1 (max 0 (ν.2 15 0)) (by decide) (by omega)
  have s2 := step 99997 2 (max (max 0 (ν.2 15 0)) (ν.2 15 1)) (by decide) (by omega)
  have s3 : pX11_placeBy_135 (99996 + 1) ν (max (max (max 0 (ν.2 15 0)) (ν.2 15 1)) (ν.2 15 2)) ((3 : Nat) : Int) = some (max (max (max 0 (ν.2 15 0)) (ν.2 15 1)) (ν.2 15 2), ν) := by
    rw [pX11_placeBy_135, gd_t (by decide), if_pos (by decide)]
  exact s0.trans (s1.trans (s2.trans s3))
/-- the two rows that a code's reading writes -/
def PL (μ : St) (P L : Nat → Int) : St := sA (sA μ 13 P) 15 L
theorem PL_PL (μ : St) (P L P' L' : Nat → Int) : PL (PL μ P L) P' L' = PL μ P' L' := by
  unfold PL
  rw [sA_comm (sA μ 13 P) (show (15 : Nat) ≠ 13 by decide), sA_sA, sA_sA]
theorem place36 {T : Nat → Int} {R n x : Nat} (hT : ∀ j, 0 ≤ T j ∧ T j ≤ 30) (hn : n ≤ 7) (hx : x < 128) (μ : St) (hR : μ.1 0 = (R : Int)) (hR3 : R ≤ 3) (hTw : ∀ j, j < n → (x / 2 ^ j % 2 = 1 → μ.2 4 j = T j ∧ T j ≠ 0) ∧ (¬ x / 2 ^ j % 2 = 1 → T j = 0)) : ∀ (j m c : Nat) (P L : Nat → Int), j ≤ n → c < 1000000 → (∀ p, p < 3 → 0 ≤ L p ∧ L p ≤ 30 * (7 - j)) →
    ∃ v P' L', pX11_placeBy_36 (m + j + 1) (PL μ P L) (x : Int) (c : Int) 0 ((j : Int) - 1) = some (v, PL μ P' L') ∧ (va3 T R j c = true → v = mx3 (fun p => L p + ld T j c p) ∧ (∀ e, e < j → P' e = dg3 j c e) ∧ (∀ e, j ≤ e → P' e = P e)) ∧ (va3 T R j c = false → v = 100000) := by
  intro j
  induction j with
  | zero =>
    intro m c P L hj hc hL
    refine ⟨mx3 L, P, L, ?_, fun _ => ⟨?_, fun e he => by omega, fun _ _ => rfl⟩, fun h => by cases h⟩
    · rw [pX11_placeBy_36, gd_t (by omega), if_pos (by omega)]
      exact place135 (PL μ P L) (fun p hp => by have := hL p hp; show 0 ≤ L p ∧ L p ≤ 1000; omega)
    · congr 1
      funext p
      rw [ld, Int.add_zero]
  | succ j ih =>
    intro m c P L hj hc hL
    have hTj := hT j
    have hw := hTw j (by omega)
    have ej : ((j + 1 : Nat) : Int) - 1 = (j : Int) := by omega
    rw [show m + (j + 1) + 1 = (m + j + 1) + 1 from by omega, pX11_placeBy_36, ej, gd_t (by omega), if_neg (by omega), gd_t (by omega), gd_t (by omega), Int.toNat_natCast, nm_v, gd_t (by omega), gd_t (by omega)]
    have k13 : (PL μ P L).2 13 = P := rfl
    have k15 : (PL μ P L).2 15 = L := rfl
    have kk : sA (PL μ P L) 13 (va_up P j ((c : Int) % 3)) = PL μ (va_up P j ((c : Int) % 3)) L := by
      unfold PL
      rw [sA_comm (sA μ 13 P) (show (15 : Nat) ≠ 13 by decide), sA_sA]
    have k1 : (PL μ (va_up P j ((c : Int) % 3)) L).2 13 j = (c : Int) % 3 := by show va_up P j ((c : Int) % 3) j = _; rw [vu, if_pos rfl]
    have k0 : (PL μ (va_up P j ((c : Int) % 3)) L).1 0 = (R : Int) := hR
    have k15' : (PL μ (va_up P j ((c : Int) % 3)) L).2 15 = L := rfl
    have k4 : (PL μ (va_up P j ((c : Int) % 3)) L).2 4 = μ.2 4 := rfl
    rw [k13, kk, k1, k0, gd_t (by omega)]
    have hd3 : (c : Int) % 3 = ((c % 3 : Nat) : Int) := by omega
    have hd4 : (c : Int) / 3 = ((c / 3 : Nat) : Int) := by omega
    have hlt : c % 3 < 3 := Nat.mod_lt _ (by decide)
    rw [hd3, hd4]
    by_cases h1 : c % 3 < R
    · rw [if_neg (by omega), has_m x j (by omega) (by omega), Option.bind_some]
      -- the step that goes on
      have go : ∀ t : Int, t = T j → (T j ≠ 0 ∨ c % 3 = 0) → ∃ v P' L', pX11_placeBy_124 (pX11_placeBy_36 (m + j + 1)) (PL μ (va_up P j ((c % 3 : Nat) : Int)) L) (x : Int) ((c / 3 : Nat) : Int) 0 (j : Int) ((c % 3 : Nat) : Int) (L (c % 3)) t = some (v, PL μ P' L') ∧ (va3 T R (j + 1) c = true → v = mx3 (fun p => L p + ld T (j + 1) c p) ∧ (∀ e, e < j + 1 → P' e = dg3 (j + 1) c e) ∧ (∀ e, j + 1 ≤ e → P' e = P e)) ∧ (va3 T R (j + 1) c = false → v = 100000) := by
        intro t ht hor
        unfold pX11_placeBy_124
        rw [gd_t (by omega), Int.toNat_natCast, nm_v, ht]
        have kL : sA (PL μ (va_up P j ((c % 3 : Nat) : Int)) L) 15 (va_up ((PL μ (va_up P j ((c % 3 : Nat) : Int)) L).2 15) (c % 3) (L (c % 3) + T j)) = PL μ (va_up P j ((c % 3 : Nat) : Int)) (va_up L (c % 3) (L (c % 3) + T j)) := by
          unfold PL
          rw [sA_sA]
          rfl
        rw [kL]
        obtain ⟨v, P', L', e1, e2, e3⟩ := ih m (c / 3) (va_up P j ((c % 3 : Nat) : Int)) (va_up L (c % 3) (L (c % 3) + T j)) (by omega) (by omega) (fun p hp => by
          have := hL p hp
          have := hL (c % 3) hlt
          rw [vu]
          split <;> omega)
        refine ⟨v, P', L', e1, fun hv => ?_, fun hv => ?_⟩
        · rw [va3] at hv
          simp only [Bool.and_eq_true] at hv
          obtain ⟨q1, q2, q3⟩ := e2 hv.1.1
          refine ⟨?_, fun e he => ?_, fun e he => ?_⟩
          · rw [q1]
            congr 1
            funext p
            rw [ld, vu]
            by_cases hp : p = c % 3
            · rw [if_pos hp, if_pos hp.symm, hp]; omega
            · rw [if_neg hp, if_neg (fun q => hp q.symm)]; omega
          · rw [dg3]
            by_cases hej : e = j
            · rw [if_pos hej, q3 e (by omega), vu, if_pos hej]
            · rw [if_neg hej]; exact q2 e (by omega)
          · rw [q3 e (by omega), vu, if_neg (by omega)]
        · rw [va3] at hv
          refine e3 ?_
          cases hq : va3 T R j (c / 3) with
          | false => rfl
          | true =>
            rw [hq] at hv
            exfalso
            have : (true && decide (c % 3 < R) && (decide (T j ≠ 0) || decide (c % 3 = 0))) = true := by simp; exact ⟨h1, hor⟩
            rw [this] at hv
            cases hv
      by_cases hb : x / 2 ^ j % 2 = 1
      · rw [if_pos hb, gd_t (by decide), if_neg (by decide)]
        unfold pX11_placeBy_91
        rw [hd3] at k1
        rw [gd_t (by omega), Int.toNat_natCast, k1, gd_t (by omega), has_m x j (by omega) (by omega), if_pos hb, Option.bind_some, gd_t (by decide), if_neg (by decide), gd_t (by omega), Int.toNat_natCast]
        exact go _ (hw.1 hb).1 (Or.inl (hw.1 hb).2)
      · rw [if_neg hb, gd_t (by decide), if_pos rfl, gd_t (by omega), gd_t (by omega)]
        by_cases h00 : c % 3 = 0
        · rw [if_pos (by omega)]
          unfold pX11_placeBy_91
          rw [hd3] at k1
          rw [gd_t (by omega), Int.toNat_natCast, k1, gd_t (by omega), has_m x j (by omega) (by omega), if_neg hb, Option.bind_some, gd_t (by decide), if_pos rfl, Int.toNat_natCast]
          exact go _ (hw.2 hb).symm (Or.inr h00)
        · rw [if_neg (by omega)]
          refine ⟨100000, _, _, rfl, fun hv => ?_, fun _ => rfl⟩
          rw [va3] at hv
          exfalso
          simp [hw.2 hb, h00] at hv
    · rw [if_pos (by omega)]
      refine ⟨100000, _, _, rfl, fun hv => ?_, fun _ => rfl⟩
      rw [va3] at hv
      exfalso
      simp [h1] at hv
end
