section
variable {σ μ : St}
theorem likes_m (h : Rel σ μ) {n k : Nat} (hV : Vw n (σ.2 0) (σ.2 1) (σ.2 11) (σ.2 12)) (hM : VM μ n (σ.2 0) (σ.2 1) (σ.2 11) (σ.2 12)) (hk : σ.1 6 = (k : Int)) (h5 : k ≤ 5) : LkM μ (LkS σ n k) k := by
  intro G B i j hi hj
  obtain ⟨⟨t1, t2, t3, t4, t5, t6, t7, t8, t9, tE, tA⟩, -⟩ := id h
  have h7 := hV.1
  have hA := tA i (by omega)
  have hM' : VM (sA (sA μ 17 B) 16 G) n (σ.2 0) (σ.2 1) (σ.2 11) (σ.2 12) := hM
  have k2 : (sA (sA μ 17 B) 16 G).1 2 = (n : Int) := hM.1
  have k2' : (sA (sA μ 17 B) 16 G).2 2 i = σ.2 3 i := hA.1.1.symm
  have k3' : (sA (sA μ 17 B) 16 G).2 3 i = σ.2 4 i := hA.2.1.symm
  unfold pX11_likes pX11_likes_0
  rw [k2, gd_t (by omega)]
  by_cases hn : j < n
  · have q := hM'.2 j hn
    have hb := hV.2 j hn
    have hh := hv_b (σ.2 0 j) (σ.2 1 j) (σ.2 12 j)
    rw [if_neg (by omega), gd_t (by omega), Int.toNat_natCast, Int.toNat_natCast, q.2.2.1, gd_t (by omega), k2', k3']
    by_cases hs : σ.2 11 j = 2
    · rw [if_pos hs, hard_m hV hM' hn, Option.bind_some, gd_t (by omega), gd_t (by omega), gd_t (by omega), gd_t (by omega), gd_t (by omega), in_e (by omega) (by omega) (by omega), Option.bind_some]
      by_cases hw : σ.2 3 i ≤ hv (σ.2 0 j) (σ.2 1 j) (σ.2 12 j) ∧ hv (σ.2 0 j) (σ.2 1 j) (σ.2 12 j) ≤ σ.2 4 i
      · have e : LkS σ n k i j = true := decide_eq_true ⟨hi, hn, hs, hw⟩
        rw [if_pos hw, gd_t (by decide), if_neg (by decide), e, if_pos rfl]
      · have e : LkS σ n k i j = false := decide_eq_false (fun q => hw q.2.2.2)
        rw [if_neg hw, gd_t (by decide), if_pos rfl, e, if_neg (by decide)]
    · have e : LkS σ n k i j = false := decide_eq_false (fun q => hs q.2.2.1)
      rw [if_neg hs, e, if_neg (by decide)]
  · have e : LkS σ n k i j = false := decide_eq_false (fun q => hn q.2.1)
    rw [if_pos (by omega), e, if_neg (by decide)]
theorem liked_20 {k : Nat} (hk : μ.1 3 = (k : Int)) (h5 : k ≤ 5) (x : Int) : pX11_liked_20 FU μ x 1 0 = pX11_liked_44 FU μ x ((8 ^ k : Nat) : Int) (-1) 0 := by
  have := lp_all (fun m i (c : Int) => pX11_liked_20 m μ x c i) (fun j => ((8 ^ j : Nat) : Int)) k (by omega) (fun m j hj => by
    rw [pX11_liked_20, hk, gd_t (by omega), if_neg (by omega), cast1, Nat.pow_succ, Int.natCast_mul]
    rfl)
  refine Eq.trans this ?_
  rw [pX11_liked_20, hk, gd_t (by omega), if_pos (by omega)]
theorem liked_q (h : Rel σ μ) {x : Int} (hx : rg x) : Al (pX10_liked σ x) (pX11_liked μ x) := by
  obtain ⟨n, hV, hE, hM⟩ := h.vw
  obtain ⟨hT, hX, hF, hN, hP, hI, hC, hB⟩ := id h
  obtain ⟨t1, t2, t3, t4, t5, t6, t7, t8, t9, tE, tA⟩ := id hT
  obtain ⟨k, hk⟩ := Int.eq_ofNat_of_zero_le t8.1
  have h5 : k ≤ 5 := by omega
  have hkM : μ.1 3 = (k : Int) := by omega
  have hlk := likes_m h hV hM hk h5
  obtain ⟨A, a1, a2⟩ := ask_e hV hE hk h5 (fun i hi => by have := tA i (by omega); omega)
  obtain ⟨G, B, m, b1, b2⟩ := codes8 hlk hkM h5 x
  have h8 := pow8 h5
  have hVb := VV_b (L := LkS σ n k) k 0 127 (by decide)
  have hout : ∀ i j, 0 + k ≤ i → LkS σ n k i j = false := fun i j hi => decide_eq_false (fun q => by have := q.1; omega)
  have hpv := VV_pad (L := LkS σ n k) (p := 5 - k) k 0 127 hout
  rw [show k + (5 - k) = 5 from by omega] at hpv
  have hRel : Rel (sA σ 25 A) (PG μ G B) := ⟨hT, hX, hF, hN, hP, hI, hC, hB⟩
  have hA : ∀ i, i < 5 → (sA σ 25 A).2 25 i = ((bsn (LkS σ n k i) 7 : Nat) : Int) := a2
  unfold Al pX10_liked pX10_liked_0 pX10_liked_10 pX10_liked_29 pX11_liked pX11_liked_0 pX11_liked_16
  rw [liked_20 hkM h5, b1, pX11_liked_44]
  have hr8 : rg ((8 ^ k : Nat) : Int) := ⟨by have := Int.natCast_nonneg (8 ^ k); omega, by have := h8.2; omega⟩
  rw [gd_t (show rg ((8 ^ k : Nat) : Int) ∧ rg ((8 ^ k : Nat) : Int) from ⟨hr8, hr8⟩), if_pos (show ((8 ^ k : Nat) : Int) ≤ ((8 ^ k : Nat) : Int) from Int.le_refl _)]
  by_cases h1 : x = -1
  · refine ⟨VV (LkS σ n k) k 0 127, sA σ 25 A, PG μ G B, ?_, ?_, hRel⟩
    · simp (disch := omega) only [gd_t, if_pos, if_neg, a1, Option.bind_some, most_e hA, hpv]
    · simp (disch := omega) only [gd_t, if_pos]
  · rw [hasEater_e hk h5 hx, isEater_m hkM h5 hx, Option.bind_some, Option.bind_some]
    by_cases hc : 0 ≤ x ∧ x < (k : Int)
    · obtain ⟨i, rfl⟩ := Int.eq_ofNat_of_zero_le hc.1
      have hi : i < k := by omega
      have hpd := dgt_pad (L := LkS σ n k) (p := 5 - k) k 0 127 i hi hout
      rw [show k + (5 - k) = 5 from by omega] at hpd
      have e17 : (PG μ G B).2 17 i = ((dgt (LkS σ n k) k 0 127 i : Nat) : Int) := b2 i hi
      have hdl : dgt (LkS σ n k) k 0 127 i < 8 := by rw [← cg_dig k 0 127 i (by decide) hi]; exact Nat.mod_lt _ (by decide)
      have hf := eggFor_e hA (show i < 5 by omega)
      rw [hpd] at hf
      refine ⟨dd (dgt (LkS σ n k) k 0 127 i), sA σ 25 A, PG μ G B, ?_, ?_, hRel⟩
      · simp (disch := omega) only [gd_t, if_pos, if_neg, a1, Option.bind_some, hf, ite_true]
      · rw [Int.toNat_natCast, e17]
        unfold dd
        by_cases h7 : dgt (LkS σ n k) k 0 127 i = 7
        · simp (disch := omega) only [gd_t, if_pos, if_neg, Option.bind_some, ite_true]
        · simp (disch := omega) only [gd_t, if_pos, if_neg, Option.bind_some, ite_true]
    · refine ⟨-1000000001, σ, μ, ?_, ?_, h⟩
      · simp (disch := omega) only [gd_t, if_pos, if_neg, Option.bind_some, ite_true]
      · simp (disch := omega) only [gd_t, if_pos, if_neg, Option.bind_some, ite_true]
end
