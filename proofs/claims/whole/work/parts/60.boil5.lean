def TW (σ : St) (n x : Nat) (j : Nat) : Int := if j < n ∧ x / 2 ^ j % 2 = 1 then σ.2 2 j else 0
section
variable {σ μ : St} {n x : Nat}
theorem wishOf_e (hn : σ.1 5 = (n : Int)) (h7 : n ≤ 7) {e : Nat} (he : e < n) : pX8_wishOf_c1 σ (e : Int) = some (σ.2 2 e) := by
  unfold pX8_wishOf_c1 pX8_wishOf_c1_0
  rw [hasEgg_e hn h7 (by omega), if_pos (by omega)]
  simp (disch := omega) only [gd_t, if_neg, Option.bind_some, Int.toNat_natCast]
theorem two_D (B : St) (a b a' b' : Nat → Int) : sA (sA (sA (sA B 21 a) 23 b) 21 a') 23 b' = sA (sA B 21 a') 23 b' := by
  rw [sA_comm B (show (21 : Nat) ≠ 23 by decide) a b, sA_sA, sA_comm (sA B 23 b) (show (21 : Nat) ≠ 23 by decide), sA_sA, sA_comm B (show (23 : Nat) ≠ 21 by decide)]
theorem tryAll_e (hn : σ.1 5 = (n : Int)) (h7 : n ≤ 7) (hx : x < 2 ^ n) {R : Nat} (hR : σ.1 2 = (R : Int)) (hR3 : 1 ≤ R ∧ R ≤ 3) (hw : ∀ e, e < n → 1 ≤ σ.2 2 e ∧ σ.2 2 e ≤ 30) : ∃ tm wy l0 W B, pX0_tryAll_c1 σ (x : Int) = some (KS (sA (sA (sA (sI (sI σ 26 (R : Int)) 27 1000000) 21 tm) 23 wy) 22 l0) (Gs (TW σ n x) R 7 0 (fun _ => 0) (fun _ => 0) (1000000, σ.2 24)).1 W B) ∧ SRB (TW σ n x) (Gs (TW σ n x) R 7 0 (fun _ => 0) (fun _ => 0) (1000000, σ.2 24)) B := by
  have h27 : 2 ^ n ≤ 2 ^ 7 := Nat.pow_le_pow_right (by decide) h7
  have hT : ∀ j, 0 ≤ TW σ n x j ∧ TW σ n x j ≤ 30 := fun j => by
    unfold TW
    split
    · rename_i h; have := hw j h.1; omega
    · decide
  generalize hS : sI (sI σ 26 (R : Int)) 27 1000000 = S
  have S5 : S.1 5 = (n : Int) := by rw [← hS]; exact hn
  have S2 : S.2 = σ.2 := by rw [← hS]; rfl
  obtain ⟨⟨tm, wy⟩, m, i1, e⟩ := lp_exA (fun m i (q : (Nat → Int) × (Nat → Int)) => pX0_tryAll_c1_20 m (sA (sA S 21 q.1) 23 q.2) (x : Int) i) (fun k q => ∀ j, j < k → q.1 j = TW σ n x j ∧ q.2 j = -1) 0 7 (by decide) (by decide) (S.2 21, S.2 23) (fun j h => by omega) (fun m k q hk1 hk hI => by
    refine ⟨(va_up q.1 k (TW σ n x k), va_up q.2 k (-1)), fun j hj => ?_, ?_⟩
    · dsimp only
      rw [vu, vu]
      by_cases h : j = k
      · rw [if_pos h, if_pos h, h]; exact ⟨rfl, rfl⟩
      · rw [if_neg h, if_neg h]; exact hI j (by omega)
    · rw [pX0_tryAll_c1_20, gd_t (by omega), if_neg (by omega), bit_n x k (by omega) (by omega), gd_t (by omega)]
      have fin : ∀ v : Int, pX0_tryAll_c1_49 (pX0_tryAll_c1_20 m) (sA (sA S 21 q.1) 23 q.2) (x : Int) (k : Int) (k : Int) v = pX0_tryAll_c1_20 m (sA (sA S 21 (va_up q.1 k v)) 23 (va_up q.2 k (-1))) (x : Int) ((k + 1 : Nat) : Int) := fun v => by
        unfold pX0_tryAll_c1_49
        rw [gd_t (by omega), Int.toNat_natCast, nm_v, gd_t (by omega), nm_v, cast1]
        have z1 : (sA (sA S 21 q.1) 23 q.2).2 21 = q.1 := rfl
        have z2 : (sA (sA (sA S 21 q.1) 23 q.2) 21 (va_up q.1 k v)).2 23 = q.2 := rfl
        rw [z1, z2, two_D]
      rw [fin, ]
      by_cases hb : x / 2 ^ k % 2 = 1
      · have hkn : k < n := by
          rcases Nat.lt_or_ge k n with q | q
          · exact q
          · have h2 : 2 ^ n ≤ 2 ^ k := Nat.pow_le_pow_right (by decide) q
            rw [Nat.div_eq_of_lt (by omega)] at hb
            omega
        have z : (sA (sA S 21 q.1) 23 q.2).2 2 k = σ.2 2 k := by show S.2 2 k = _; rw [S2]
        rw [if_pos (by omega), wishOf_e (σ := sA (sA S 21 q.1) 23 q.2) S5 h7 hkn, Option.bind_some, fin, z, show TW σ n x k = σ.2 2 k from by unfold TW; rw [if_pos ⟨hkn, hb⟩]]
      · rw [if_neg (by omega), show TW σ n x k = 0 from by unfold TW; rw [if_neg (fun q => hb q.2)]])
  rw [sA_same, sA_same] at e
  obtain ⟨l0, m', i2, e'⟩ := lp_exA (fun m i (q : Nat → Int) => pX0_tryAll_c1_65 m (sA (sA (sA S 21 tm) 23 wy) 22 q) i) (fun k q => ∀ j, j < k → q j = 0) 0 3 (by decide) (by decide) ((sA (sA S 21 tm) 23 wy).2 22) (fun j h => by omega) (fun m k q hk1 hk hI => by
    refine ⟨va_up q k 0, fun j hj => ?_, ?_⟩
    · rw [vu]
      by_cases h : j = k
      · rw [if_pos h]
      · rw [if_neg h]; exact hI j (by omega)
    · rw [pX0_tryAll_c1_65, gd_t (by omega), if_neg (by omega), gd_t (by omega), Int.toNat_natCast, nm_v, sA_sA, cast1]
      rfl)
  rw [sA_same] at e'
  have s26 : (sA (sA (sA S 21 tm) 23 wy) 22 l0).1 26 = (R : Int) := by show S.1 26 = _; rw [← hS]; rfl
  have s27 : (sA (sA (sA S 21 tm) 23 wy) 22 l0).1 27 = 1000000 := by show S.1 27 = _; rw [← hS]; rfl
  have s24 : (sA (sA (sA S 21 tm) 23 wy) 22 l0).2 24 = σ.2 24 := by show S.2 24 = _; rw [S2]
  obtain ⟨W, B, t1, t2, -⟩ := tf_e hT hR3.2 7 0 1 (sA (sA (sA S 21 tm) 23 wy) 22 l0) (fun _ => 0) (1000000, σ.2 24) rfl s26 (fun i hi => (i1 i hi).1) (fun p hp => by show 0 ≤ l0 p ∧ l0 p ≤ _; rw [i2 p hp]; omega) s27.symm (by show (0 : Int) ≤ 1000000 ∧ (1000000 : Int) ≤ 1000000; decide) (fun q => absurd (show (1000000 : Int) < 1000000 from q) (by decide)) (fun i hi => ⟨fun q => by omega, fun _ => (i1 i hi).2⟩)
  have hl : Gs (TW σ n x) R 7 0 ((sA (sA (sA S 21 tm) 23 wy) 22 l0).2 22) (fun _ => 0) (1000000, σ.2 24) = Gs (TW σ n x) R 7 0 (fun _ => 0) (fun _ => 0) (1000000, σ.2 24) := Gs_lc hR3.2 _ _ _ _ _ _ (fun p hp => i2 p hp)
  rw [hl] at t1 t2
  refine ⟨tm, wy, l0, W, B, ?_, t2⟩
  unfold pX0_tryAll_c1 pX0_tryAll_c1_0
  rw [gd_t (by omega), nm_v, nm_v, hR, show min (R : Int) 3 = (R : Int) from by omega, hS]
  refine Eq.trans e ?_
  rw [pX0_tryAll_c1_20, gd_t (by decide), if_pos (by decide)]
  refine Eq.trans e' ?_
  rw [pX0_tryAll_c1_65, gd_t (by decide), if_pos (by decide)]
  have t1' : pX0_tryFrom 9 (sA (sA (sA S 21 tm) 23 wy) 22 l0) 0 = some (KS (sA (sA (sA S 21 tm) 23 wy) 22 l0) (Gs (TW σ n x) R 7 0 (fun _ => 0) (fun _ => 0) (1000000, σ.2 24)).1 W B) := t1
  rw [t1']
  rfl
theorem hasEggs_e (hn : σ.1 5 = (n : Int)) (h7 : n ≤ 7) {y : Int} (hy : rg y) : pX8_hasEggs_c1 σ y = some (if 0 ≤ y ∧ y < ((2 ^ n : Nat) : Int) then 1 else 0) := by
  unfold pX8_hasEggs_c1 pX8_hasEggs_c1_0
  rw [hn, gd_t hy]
  by_cases h0 : y < 0
  · rw [if_pos h0, if_neg (by omega)]
  · obtain ⟨x, rfl⟩ := Int.eq_ofNat_of_zero_le (show 0 ≤ y by omega)
    have hp : 0 < 2 ^ n := Nat.pow_pos (by decide)
    rw [if_neg h0, gd_t (by omega), show min (n : Int) 7 = (n : Int) from by omega, zShr_n x n (by omega) (by omega)]
    have hd : x / 2 ^ n ≤ x := Nat.div_le_self _ _
    have hd0 : (0 : Int) ≤ ((x / 2 ^ n : Nat) : Int) := Int.natCast_nonneg _
    rw [gd_t (by omega)]
    by_cases hlt : x < 2 ^ n
    · rw [Nat.div_eq_of_lt hlt, if_pos (show ((0 : Nat) : Int) = 0 from rfl), if_pos (by omega)]
    · have := Nat.div_pos (show 2 ^ n ≤ x by omega) hp
      rw [if_neg (by omega), if_neg (by omega)]
theorem allBoiled_49 (μ : St) (hn : μ.1 2 = (n : Int)) (h7 : n ≤ 7) (x1 x2 : Int) : pX11_allBoiled_49 FU μ x1 x2 1 0 = pX11_allBoiled_75 FU μ x1 x2 ((3 ^ n : Nat) : Int) 100000 0 := by
  have := lp_all (fun m i (q : Int) => pX11_allBoiled_49 m μ x1 x2 q i) (fun k => ((3 ^ k : Nat) : Int)) n (by omega) (fun m k hk => by
    rw [pX11_allBoiled_49, hn, gd_t (by omega), if_neg (by omega), cast1]
    congr 1)
  refine Eq.trans this ?_
  rw [pX11_allBoiled_49, hn, gd_t (by omega), if_pos (by omega)]
theorem allBoiled_q (h : Rel σ μ) {y e : Int} (hy : rg y) (he : rg e) : Al (pX10_allBoiled σ y e) (pX11_allBoiled μ y e) := by
  obtain ⟨n, hV, hE, hM⟩ := h.vw
  have h7 := hV.1
  have hn := hE.1
  have h27 : 2 ^ n ≤ 2 ^ 7 := Nat.pow_le_pow_right (by decide) h7
  have hp1 : 0 < 2 ^ n := Nat.pow_pos (by decide)
  obtain ⟨hT, hX, hF, hN, hP, hI, hC, hB⟩ := id h
  obtain ⟨t1, t2, t3, t4, t5, t6, t7, t8, t9, tE, tA⟩ := id hT
  have hsh : zShl 1 (μ.1 2) = ((2 ^ n : Nat) : Int) := by rw [hM.1]; exact zShl1 n (by omega)
  unfold Al pX10_allBoiled pX10_allBoiled_0 pX11_allBoiled pX11_allBoiled_0 pX10_allBoiled_10 pX11_allBoiled_34
  rw [hasEggs_e hn h7 hy, hasEgg_e hn h7 he, isEgg_m hM.1 h7 he, hsh, gd_t he, gd_t hy, gd_t (show rg (((2 ^ n : Nat) : Int) - 1) by omega), in_e hy (by decide) (by omega), allBoiled_49 μ hM.1 h7]
  by_cases hc : 0 ≤ y ∧ y < ((2 ^ n : Nat) : Int)
  · rw [if_pos hc, if_pos (show 0 ≤ y ∧ y ≤ ((2 ^ n : Nat) : Int) - 1 by omega)]
    by_cases hq : e = -1 ∨ (0 ≤ e ∧ e < (n : Int))
    · -- both go on
      have goC : (if e = -1 then Option.bind (some (1 : Int)) fun r16 => gd (rg r16) (if r16 = 0 then some ((-1000000001 : Int), σ) else gd (rg 1) (if (1 : Int) = 0 then Option.bind (some (if 0 ≤ e ∧ e < (n : Int) then (1 : Int) else 0)) fun r31 => gd (rg r31) (if r31 = 0 then some ((-1000000001 : Int), σ) else pX10_allBoiled_40 σ y e 1) else pX10_allBoiled_40 σ y e 1)) else Option.bind (some (1 : Int)) fun r16 => gd (rg r16) (if r16 = 0 then some ((-1000000001 : Int), σ) else gd (rg 0) (if (0 : Int) = 0 then Option.bind (some (if 0 ≤ e ∧ e < (n : Int) then (1 : Int) else 0)) fun r31 => gd (rg r31) (if r31 = 0 then some ((-1000000001 : Int), σ) else pX10_allBoiled_40 σ y e 0) else pX10_allBoiled_40 σ y e 0))) = pX10_allBoiled_40 σ y e (if e = -1 then 1 else 0) := by
        by_cases h1 : e = -1
        · rw [if_pos h1, if_pos h1]
          simp (disch := omega) only [Option.bind_some, gd_t, if_neg]
        · rw [if_neg h1, if_neg h1, if_pos (show 0 ≤ e ∧ e < (n : Int) by omega)]
          simp (disch := omega) only [Option.bind_some, gd_t, if_neg, ite_true]
      rw [goC]
      have goM : ∀ Z : Option (Int × St), (Option.bind (some (1 : Int)) fun r12 => gd (rg r12) (if r12 = 0 then some ((-1000000001 : Int), μ) else gd (rg e) (if e = -1 then Z else Option.bind (some (if 0 ≤ e ∧ e < (n : Int) then (1 : Int) else 0)) fun r25 => gd (rg r25) (if r25 = 0 then some ((-1000000001 : Int), μ) else Z)))) = Z := by
        intro Z
        by_cases h1 : e = -1
        · simp (disch := omega) only [Option.bind_some, gd_t, if_neg, if_pos]
        · simp (disch := omega) only [Option.bind_some, gd_t, if_neg, if_pos]
      rw [goM]
      unfold pX10_allBoiled_40 pX8_isLaid_c1 pX8_isLaid_c1_0
      rw [← t1, gd_t (by omega), gd_t (by omega)]
      by_cases hl : σ.1 2 = 0
      · rw [if_pos (show σ.1 2 ≤ 0 by omega), if_pos hl]
        simp (disch := omega) only [Option.bind_some, gd_t, ite_true]
        exact ⟨_, _, _, rfl, rfl, h⟩
      · rw [if_neg (show ¬ σ.1 2 ≤ 0 by omega), if_neg hl]
        obtain ⟨x, rfl⟩ := Int.eq_ofNat_of_zero_le hc.1
        obtain ⟨R, hR⟩ := Int.eq_ofNat_of_zero_le t5.1
        have hx : x < 2 ^ n := by omega
        obtain ⟨tm, wy, l0, W, B, c1, c2⟩ := tryAll_e hn h7 hx hR (by omega) (fun e he => by have := tE e (by omega); omega)
        have hTb : ∀ j, 0 ≤ TW σ n x j ∧ TW σ n x j ≤ 30 := fun j => by
          unfold TW
          split
          · rename_i hh; have := tE j (by omega); omega
          · decide
        have hMB : MB μ (TW σ n x) R n x := ⟨hTb, h7, by omega, by omega, by omega, hM.1, fun j hj => ⟨fun hb => by
          have := tE j (by omega)
          unfold TW
          rw [if_pos ⟨hj, hb⟩]
          exact ⟨this.2.2.1.symm, by omega⟩, fun hb => by unfold TW; rw [if_neg (fun q => hb q.2)]⟩⟩
        obtain ⟨P, L, B', m, m1, m2⟩ := codes_m hMB e
        have g1 := RG_Gs (T := TW σ n x) (R := R) (by omega) (by omega) n 0 0 (100000, μ.2 14) rfl
        rw [Nat.zero_add, Nat.zero_mul] at g1
        have g2 := Gs_start hTb (R := R) (by omega) (by omega) n 0 (ld (TW σ n x) 0 0) (dg3 0 0) (100000, μ.2 14) (1000000, σ.2 24) (fun p hp => by show (0 : Int) ≤ 30 * ((0 : Nat) : Int); omega) (by show 30 * ((0 + n : Nat) : Int) < 100000; omega) (by show 30 * ((0 + n : Nat) : Int) < 1000000; omega)
        have g3 := Gs_ag (T := TW σ n x) (R := R) (n := n) (fun j hj => by unfold TW; rw [if_neg (by omega)]) (7 - n) n 0 (ld (TW σ n x) 0 0) (dg3 0 0) (1000000, σ.2 24) (1000000, σ.2 24) (by omega) ⟨rfl, fun _ _ => rfl⟩
        rw [show n + (7 - n) = 7 from by omega, ← g2.1, ← g1] at g3
        rw [← g1] at g2
        have hz1 : ld (TW σ n x) 0 0 = fun _ => 0 := rfl
        have hz2 : dg3 0 0 = fun _ => 0 := rfl
        rw [hz1, hz2] at g3
        generalize RG3 (TW σ n x) R n 0 (100000, μ.2 14) (3 ^ n) = sM at m1 m2 g3 g2
        generalize Gs (TW σ n x) R 7 0 (fun _ => 0) (fun _ => 0) (1000000, σ.2 24) = sC at c1 c2 g3
        obtain ⟨g31, g32⟩ := g3
        have hsm := g2.2
        have hsm : sM.1 ≤ 30 * ((0 + n : Nat) : Int) := hsm
        have h37 : 3 ^ n ≤ 3 ^ 7 := Nat.pow_le_pow_right (by decide) h7
        have h30 : (0 : Int) ≤ ((3 ^ n : Nat) : Int) := Int.natCast_nonneg _
        have h31 : ((3 ^ n : Nat) : Int) ≤ 2187 := by have : 3 ^ n ≤ 2187 := h37; omega
        rw [c1, m1, pX11_allBoiled_75, gd_t (show rg ((3 ^ n : Nat) : Int) ∧ rg ((3 ^ n : Nat) : Int) by omega), if_pos (show ((3 ^ n : Nat) : Int) ≤ ((3 ^ n : Nat) : Int) from Int.le_refl _), gd_t he]
        simp (disch := omega) only [Option.bind_some, gd_t, if_neg]
        have hRel : Rel (KS (sA (sA (sA (sI (sI σ 26 (R : Int)) 27 1000000) 21 tm) 23 wy) 22 l0) sC.1 W B) (PQ μ P L B') := ⟨hT, hX, hF, hN, hP, hI, hC, hB⟩
        by_cases h1 : e = -1
        · rw [if_pos h1, if_pos h1, if_neg (show ¬ (1:Int) = 0 by decide)]
          refine ⟨sC.1, _, _, rfl, by rw [g31], hRel⟩
        · rw [if_neg h1, if_neg h1, if_pos (show (0:Int) = 0 from rfl)]
          obtain ⟨i, rfl⟩ := Int.eq_ofNat_of_zero_le (show 0 ≤ e by omega)
          have hin : i < n := by omega
          have ePl : pX0_placeOf (KS (sA (sA (sA (sI (sI σ 26 (R : Int)) 27 1000000) 21 tm) 23 wy) 22 l0) sC.1 W B) (i : Int) = some (B i) := by
            unfold pX0_placeOf pX0_placeOf_0
            simp (disch := omega) only [gd_t, if_neg, Int.toNat_natCast]
            rfl
          have hbb := c2 (by omega) i (by omega)
          rw [ePl, has_m x i (by omega) (by omega)]
          by_cases hb : x / 2 ^ i % 2 = 1
          · have hTi : TW σ n x i ≠ 0 := by
              have := tE i (by omega)
              unfold TW
              rw [if_pos ⟨hin, hb⟩]
              omega
            rw [if_pos hb]
            simp (disch := omega) only [Option.bind_some, gd_t, if_neg, Int.toNat_natCast]
            refine ⟨B i, _, _, rfl, ?_, hRel⟩
            have z : (PQ μ P L B').2 14 i = B' i := rfl
            rw [z, m2 (by omega) i hin, hbb.1 hTi, g32 i hin]
          · have hTi : TW σ n x i = 0 := by unfold TW; rw [if_neg (fun q => hb q.2)]
            rw [if_neg hb]
            simp (disch := omega) only [Option.bind_some, gd_t, ite_true]
            exact ⟨B i, _, _, rfl, by rw [hbb.2 hTi], hRel⟩
    · refine ⟨-1000000001, σ, μ, ?_, ?_, h⟩
      · rw [if_neg (show ¬ e = -1 by omega), if_neg (show ¬ (0 ≤ e ∧ e < (n : Int)) by omega)]
        simp (disch := omega) only [Option.bind_some, gd_t, if_neg, ite_true]
      · rw [if_neg (show ¬ (0 ≤ e ∧ e < (n : Int)) by omega)]
        simp (disch := omega) only [Option.bind_some, gd_t, if_neg, ite_true]
  · rw [if_neg hc, if_neg (show ¬ (0 ≤ y ∧ y ≤ ((2 ^ n : Nat) : Int) - 1) by omega)]
    refine ⟨-1000000001, σ, μ, ?_, ?_, h⟩
    · simp (disch := omega) only [Option.bind_some, gd_t, ite_true, ite_self]
    · simp (disch := omega) only [Option.bind_some, gd_t, ite_true]
end
