theorem mx3_c {l l' : Nat → Int} (h : ∀ p, p < 3 → l p = l' p) : mx3 l = mx3 l' := by
  unfold mx3
  rw [h 0 (by decide), h 1 (by decide), h 2 (by decide)]
theorem Gs_lc {T : Nat → Int} {R : Nat} (hR : R ≤ 3) : ∀ (k j : Nat) (l l' w : Nat → Int) (s : Int × (Nat → Int)), (∀ p, p < 3 → l p = l' p) → Gs T R k j l w s = Gs T R k j l' w s := by
  intro k
  induction k with
  | zero => intro j l l' w s h; rw [Gs, Gs, leafU, leafU, mx3_c h]
  | succ k ih =>
    intro j l l' w s h
    rw [Gs, Gs]
    by_cases h0 : T j = 0
    · rw [if_pos h0, if_pos h0]; exact ih _ _ _ _ _ h
    · rw [if_neg h0, if_neg h0]
      refine fd_ext (fun s p hp => ih _ _ _ _ _ (fun q hq => ?_))
      rw [vu, vu]
      by_cases hqp : q = p
      · rw [if_pos hqp, if_pos hqp, h p (by omega)]
      · rw [if_neg hqp, if_neg hqp, h q hq]
/-- two bests that agree on the first n eggs -/
def Ag (n : Nat) (s s' : Int × (Nat → Int)) : Prop := s.1 = s'.1 ∧ ∀ e, e < n → s.2 e = s'.2 e
theorem leaf_ag {n : Nat} {s s' : Int × (Nat → Int)} {l w w' : Nat → Int} (h : Ag n s s') (hw : ∀ e, e < n → w e = w' e) : Ag n (leafU s l w) (leafU s' l w') := by
  unfold leafU
  rw [h.1]
  split
  · exact ⟨rfl, hw⟩
  · exact h
theorem Gs_tail {T : Nat → Int} {R n : Nat} (hT : ∀ j, n ≤ j → T j = 0) : ∀ (r j : Nat) (l w w' : Nat → Int) (s s' : Int × (Nat → Int)), n ≤ j → Ag n s s' → (∀ e, e < n → w e = w' e) → Ag n (Gs T R r j l w s) (leafU s' l w') := by
  intro r
  induction r with
  | zero => intro j l w w' s s' hj h hw; rw [Gs]; exact leaf_ag h hw
  | succ r ih =>
    intro j l w w' s s' hj h hw
    rw [Gs, if_pos (hT j hj)]
    exact ih (j + 1) l _ w' s s' (by omega) h (fun e he => by rw [vu, if_neg (by omega)]; exact hw e he)
theorem Gs_ag {T : Nat → Int} {R n : Nat} (hT : ∀ j, n ≤ j → T j = 0) (r : Nat) : ∀ (k j : Nat) (l w : Nat → Int) (s s' : Int × (Nat → Int)), j + k = n → Ag n s s' → Ag n (Gs T R (k + r) j l w s) (Gs T R k j l w s') := by
  intro k
  induction k with
  | zero =>
    intro j l w s s' hj h
    rw [Nat.zero_add, show Gs T R 0 j l w s' = leafU s' l w from rfl]
    exact Gs_tail hT r j l w w s s' (by omega) h (fun _ _ => rfl)
  | succ k ih =>
    intro j l w s s' hj h
    rw [show k + 1 + r = (k + r) + 1 from by omega, Gs, Gs]
    by_cases h0 : T j = 0
    · rw [if_pos h0, if_pos h0]; exact ih (j + 1) _ _ _ _ (by omega) h
    · rw [if_neg h0, if_neg h0]
      have : ∀ q, Ag n (fd (fun s p => Gs T R (k + r) (j + 1) (va_up l p (l p + T j)) (va_up w j (p : Int)) s) q s) (fd (fun s p => Gs T R k (j + 1) (va_up l p (l p + T j)) (va_up w j (p : Int)) s) q s') := by
        intro q
        induction q with
        | zero => exact h
        | succ q ih2 => rw [fd_succ, fd_succ]; exact ih (j + 1) _ _ _ _ (by omega) ih2
      exact this R
section
variable {μ : St} {T : Nat → Int} {R n x : Nat}
/-- what the reference's search stands on -/
def MB (μ : St) (T : Nat → Int) (R n x : Nat) : Prop := (∀ j, 0 ≤ T j ∧ T j ≤ 30) ∧ n ≤ 7 ∧ x < 128 ∧ μ.1 0 = (R : Int) ∧ (1 ≤ R ∧ R ≤ 3) ∧ μ.1 2 = (n : Int) ∧ (∀ j, j < n → (x / 2 ^ j % 2 = 1 → μ.2 4 j = T j ∧ T j ≠ 0) ∧ (¬ x / 2 ^ j % 2 = 1 → T j = 0))
theorem place_m (h : MB μ T R n x) {c : Nat} (hc : c < 1000000) : ∃ v P L, pX11_placeBy μ (c : Int) (x : Int) = some (v, PL μ P L) ∧ (va3 T R n c = true → v = mx3 (ld T n c) ∧ (∀ e, e < n → P e = dg3 n c e)) ∧ (va3 T R n c = false → v = 100000) := by
  obtain ⟨hT, h7, hx, hR, hR3, hn, hTw⟩ := id h
  obtain ⟨L0, m0, i0, e0⟩ := lp_exA (fun m i (q : Nat → Int) => pX11_placeBy_8 m (PL μ (μ.2 13) q) (x : Int) (c : Int) 0 i) (fun k q => ∀ j, j < k → q j = 0) 0 3 (by decide) (by decide) (μ.2 15) (fun j h => by omega) (fun m k q hk1 hk hI => by
    refine ⟨va_up q k 0, fun j hj => ?_, ?_⟩
    · rw [vu]
      by_cases h : j = k
      · rw [if_pos h]
      · rw [if_neg h]; exact hI j (by omega)
    · rw [pX11_placeBy_8, gd_t (by omega), if_neg (by omega), gd_t (by omega), Int.toNat_natCast, nm_v, cast1]
      have : sA (PL μ (μ.2 13) q) 15 (va_up ((PL μ (μ.2 13) q).2 15) k 0) = PL μ (μ.2 13) (va_up q k 0) := by
        unfold PL
        rw [sA_sA]
        rfl
      rw [this])
  have e1 : PL μ (μ.2 13) (μ.2 15) = μ := by unfold PL; rw [sA_same, sA_same]
  rw [e1] at e0
  obtain ⟨v, P', L', e2, e3, e4⟩ := place36 hT h7 hx μ hR hR3.2 hTw n (99999 - n) c (μ.2 13) L0 (Nat.le_refl _) hc (fun p hp => by rw [i0 p hp]; omega)
  rw [show 99999 - n + n + 1 = FU from by unfold FU; omega] at e2
  refine ⟨v, P', L', ?_, fun hv => ⟨?_, (e3 hv).2.1⟩, e4⟩
  · unfold pX11_placeBy pX11_placeBy_0
    refine Eq.trans e0 ?_
    rw [pX11_placeBy_8, gd_t (by decide), if_pos (by decide)]
    have : (PL μ (μ.2 13) L0).1 2 = (n : Int) := hn
    rw [this]
    exact e2
  · rw [(e3 hv).1]
    exact mx3_c (fun p hp => by rw [i0 p hp, Int.zero_add])
theorem copy104 (K : St → Int → Int → Int → Int → Int → Option (Int × St)) (ν : St) (hn : ν.1 2 = (n : Int)) (h7 : n ≤ 7) (x1 x2 x3 x4 x5 : Int) : ∃ B, pX11_allBoiled_104 K FU ν x1 x2 x3 x4 x5 0 = K (sA ν 14 B) x1 x2 x3 x4 (x5 + 1) ∧ ∀ e, e < n → B e = ν.2 13 e := by
  obtain ⟨B, m, i1, e⟩ := lp_exA (fun m i (q : Nat → Int) => pX11_allBoiled_104 K m (sA ν 14 q) x1 x2 x3 x4 x5 i) (fun k q => ∀ j, j < k → q j = ν.2 13 j) 0 n (Nat.zero_le _) (by omega) (ν.2 14) (fun j h => by omega) (fun m k q hk1 hk hI => by
    refine ⟨va_up q k (ν.2 13 k), fun j hj => ?_, ?_⟩
    · rw [vu]
      by_cases h : j = k
      · rw [if_pos h, h]
      · rw [if_neg h]; exact hI j (by omega)
    · rw [pX11_allBoiled_104, sA_1, hn, gd_t (by omega), if_neg (by omega), gd_t (by omega), gd_t (by omega), Int.toNat_natCast, nm_v, sA_sA, cast1]
      rfl)
  rw [sA_same] at e
  refine ⟨B, Eq.trans e ?_, i1⟩
  rw [pX11_allBoiled_104, sA_1, hn, gd_t (by omega), if_pos (by omega)]
  rfl
/-- the reference's state while it goes through the codes -/
def PQ (μ : St) (P L B : Nat → Int) : St := sA (PL μ P L) 14 B
theorem codes_m (h : MB μ T R n x) (e : Int) : ∃ P L B m, pX11_allBoiled_75 FU μ (x : Int) e ((3 ^ n : Nat) : Int) 100000 0 = pX11_allBoiled_75 (m + 1) (PQ μ P L B) (x : Int) e ((3 ^ n : Nat) : Int) (RG3 T R n 0 (100000, μ.2 14) (3 ^ n)).1 ((3 ^ n : Nat) : Int) ∧ ((RG3 T R n 0 (100000, μ.2 14) (3 ^ n)).1 < 100000 → ∀ e, e < n → B e = (RG3 T R n 0 (100000, μ.2 14) (3 ^ n)).2 e) := by
  obtain ⟨hT, h7, hx, hR, hR3, hn, hTw⟩ := id h
  have h37 : 3 ^ n ≤ 3 ^ 7 := Nat.pow_le_pow_right (by decide) h7
  obtain ⟨⟨P, L, B⟩, m, ⟨i1, i2⟩, eq⟩ := lp_exA (fun m i (q : (Nat → Int) × (Nat → Int) × (Nat → Int)) => pX11_allBoiled_75 m (PQ μ q.1 q.2.1 q.2.2) (x : Int) e ((3 ^ n : Nat) : Int) (RG3 T R n 0 (100000, μ.2 14) i.toNat).1 i) (fun k q => (0 ≤ (RG3 T R n 0 (100000, μ.2 14) k).1 ∧ (RG3 T R n 0 (100000, μ.2 14) k).1 ≤ 100000) ∧ ((RG3 T R n 0 (100000, μ.2 14) k).1 < 100000 → ∀ e, e < n → q.2.2 e = (RG3 T R n 0 (100000, μ.2 14) k).2 e)) 0 (3 ^ n) (Nat.zero_le _) (by omega) (μ.2 13, μ.2 15, μ.2 14) ⟨⟨by show (0 : Int) ≤ 100000; decide, by show (100000 : Int) ≤ 100000; decide⟩, fun q => absurd (show (100000 : Int) < 100000 from q) (by decide)⟩ (fun m k q hk1 hk hI => by
    obtain ⟨⟨b1, b2⟩, i2⟩ := hI
    have hs : RG3 T R n 0 (100000, μ.2 14) (k + 1) = up3 T R n (RG3 T R n 0 (100000, μ.2 14) k) k := by
      show up3 T R n (fd _ k _) (0 + k) = _
      rw [Nat.zero_add]
      rfl
    rw [Int.toNat_natCast, Int.toNat_natCast, hs]
    generalize RG3 T R n 0 (100000, μ.2 14) k = s at b1 b2 i2 ⊢
    have hMB : MB (PQ μ q.1 q.2.1 q.2.2) T R n x := h
    obtain ⟨v, P, L, e1, e2, e3⟩ := place_m hMB (c := k) (by omega)
    have hPQ : PL (PQ μ q.1 q.2.1 q.2.2) P L = PQ μ P L q.2.2 := by
      unfold PQ
      unfold PL
      rw [sA_comm (sA (sA (sA μ 13 q.1) 15 q.2.1) 14 q.2.2) (show (13 : Nat) ≠ 15 by decide), sA_comm (sA (sA μ 13 q.1) 15 q.2.1) (show (14 : Nat) ≠ 15 by decide), sA_sA, sA_comm (sA (sA μ 13 q.1) 15 L) (show (14 : Nat) ≠ 13 by decide), sA_comm (sA μ 13 q.1) (show (15 : Nat) ≠ 13 by decide), sA_sA]
    rw [hPQ] at e1
    rw [pX11_allBoiled_75, gd_t (by omega), if_neg (by omega), e1, Option.bind_some]
    simp only [nm_v]
    have hv : 0 ≤ v ∧ v ≤ 100000 := by
      cases hq : va3 T R n k with
      | false => rw [e3 hq]; decide
      | true =>
        rw [(e2 hq).1]
        have z0 := ld_b hT n k 0
        have z1 := ld_b hT n k 1
        have z2 := ld_b hT n k 2
        unfold mx3
        omega
    rw [gd_t (by omega)]
    unfold up3 leafU
    by_cases hc : s.1 ≤ v
    · rw [if_pos hc]
      have hsame : (if va3 T R n k = true then (if mx3 (ld T n k) < s.1 then (mx3 (ld T n k), dg3 n k) else s) else s) = s := by
        by_cases hq : va3 T R n k = true
        · rw [if_pos hq, if_neg (by rw [← (e2 hq).1]; omega)]
        · rw [if_neg hq]
      rw [hsame]
      unfold pX11_allBoiled_133
      exact ⟨(P, L, q.2.2), ⟨⟨b1, b2⟩, i2⟩, rfl⟩
    · rw [if_neg hc]
      have hq : va3 T R n k = true := by
        cases hq : va3 T R n k with
        | false => have := e3 hq; omega
        | true => rfl
      have hup : (if va3 T R n k = true then (if mx3 (ld T n k) < s.1 then (mx3 (ld T n k), dg3 n k) else s) else s) = (mx3 (ld T n k), dg3 n k) := by
        rw [if_pos hq, if_pos (by rw [← (e2 hq).1]; omega)]
      rw [hup]
      obtain ⟨B', c1, c2⟩ := copy104 (pX11_allBoiled_75 m) (PQ μ P L q.2.2) (n := n) hn h7 (x : Int) e ((3 ^ n : Nat) : Int) v (k : Int)
      rw [c1, cast1]
      have hB : sA (PQ μ P L q.2.2) 14 B' = PQ μ P L B' := by unfold PQ; rw [sA_sA]
      rw [hB, (e2 hq).1]
      refine ⟨(P, L, B'), ⟨⟨?_, ?_⟩, fun _ e he => ?_⟩, rfl⟩
      · rw [← (e2 hq).1]; omega
      · rw [← (e2 hq).1]; omega
      · dsimp only
        rw [c2 e he]
        exact (e2 hq).2 e he)
  have e0 : PQ μ (μ.2 13) (μ.2 15) (μ.2 14) = μ := by
    unfold PQ PL
    rw [sA_same μ 13, sA_same μ 15, sA_same μ 14]
  have eq' : pX11_allBoiled_75 FU (PQ μ (μ.2 13) (μ.2 15) (μ.2 14)) (x : Int) e ((3 ^ n : Nat) : Int) 100000 0 = pX11_allBoiled_75 (m + 1) (PQ μ P L B) (x : Int) e ((3 ^ n : Nat) : Int) (RG3 T R n 0 (100000, μ.2 14) (3 ^ n)).1 ((3 ^ n : Nat) : Int) := eq
  rw [e0] at eq'
  exact ⟨P, L, B, m, eq', i2⟩
end
