/-! the class's side of who gets what -/
theorem rmb : ∀ F, F < 128 → ∀ d, d < 7 → fb F d = true → zAnd (F : Int) (zXor (zShl 1 (d : Int)) (-1)) = ((F - 2 ^ d : Nat) : Int) := by decide +kernel
def LkS (σ : St) (n k : Nat) (i j : Nat) : Bool := decide (i < k ∧ j < n ∧ σ.2 11 j = 2 ∧ σ.2 3 i ≤ hv (σ.2 0 j) (σ.2 1 j) (σ.2 12 j) ∧ hv (σ.2 0 j) (σ.2 1 j) (σ.2 12 j) ≤ σ.2 4 i)
def dd (p : Nat) : Int := if p = 7 then -1 else (p : Int)
section
variable {σ : St} {n k : Nat}
theorem liking_e (hV : Vw n (σ.2 0) (σ.2 1) (σ.2 11) (σ.2 12)) (hE : VE σ n (σ.2 0) (σ.2 1) (σ.2 11) (σ.2 12)) (hk : σ.1 6 = (k : Int)) (h5 : k ≤ 5) (hl : ∀ i, i < k → (0 ≤ σ.2 3 i ∧ σ.2 3 i ≤ 99) ∧ (0 ≤ σ.2 4 i ∧ σ.2 4 i ≤ 99)) {i : Nat} (hi : i < k) : pX6_liking_c1 σ (i : Int) = some ((bsn (LkS σ n k i) 7 : Nat) : Int) := by
  have hq := hl i hi
  have h1 : pX8_softestFor_c1 σ (i : Int) = some (σ.2 3 i) := by
    unfold pX8_softestFor_c1 pX8_softestFor_c1_0
    rw [hasEater_e hk h5 (by omega), if_pos (by omega)]
    simp (disch := omega) only [gd_t, if_neg, Option.bind_some, Int.toNat_natCast]
  have h2 : pX8_hardestFor_c1 σ (i : Int) = some (σ.2 4 i) := by
    unfold pX8_hardestFor_c1 pX8_hardestFor_c1_0
    rw [hasEater_e hk h5 (by omega), if_pos (by omega)]
    simp (disch := omega) only [gd_t, if_neg, Option.bind_some, Int.toNat_natCast]
  have := lp_all (fun m j (c : Int) => pX6_liking_c1_5 σ m (i : Int) c j) (fun j => ((bsn (LkS σ n k i) j : Nat) : Int)) 7 (by omega) (fun m j hj => by
    have hlt := bsn_lt (LkS σ n k i) j
    have hl2 := bsn_lt31 (LkS σ n k i) (k := j) (by omega)
    rw [pX6_liking_c1_5, gd_t (by omega), if_neg (by omega)]
    unfold pX6_liking_c1_48 pX6_liking_c1_49 pX6_liking_c1_65
    by_cases he : j < n
    · have hb := hV.2 j he
      have hh := hv_b (σ.2 0 j) (σ.2 1 j) (σ.2 12 j)
      rw [stateOf_e hV hE he, Option.bind_some, gd_t (by omega)]
      by_cases hs : σ.2 11 j = 2
      · rw [if_pos hs, hardnessOf_e hV hE he, Option.bind_some, h1, Option.bind_some, h2, Option.bind_some, within_e (by omega) (by omega) (by omega), Option.bind_some]
        by_cases hw : σ.2 3 i ≤ hv (σ.2 0 j) (σ.2 1 j) (σ.2 12 j) ∧ hv (σ.2 0 j) (σ.2 1 j) (σ.2 12 j) ≤ σ.2 4 i
        · have e : LkS σ n k i j = true := decide_eq_true ⟨hi, he, hs, hw⟩
          rw [if_pos hw, gd_t (by decide), if_neg (by decide), gd_t (by decide), if_neg (by decide), zOr_bit (by omega) hlt]; simp only [bsn, e]; rfl
        · have e : LkS σ n k i j = false := decide_eq_false (fun q => hw q.2.2.2)
          rw [if_neg hw, gd_t (by decide), if_pos rfl, gd_t (by decide), if_pos rfl, zOr_0 hl2]; simp only [bsn, e]; rfl
      · have e : LkS σ n k i j = false := decide_eq_false (fun q => hs q.2.2.1)
        rw [if_neg hs, gd_t (by decide), if_pos rfl, zOr_0 hl2]; simp only [bsn, e]; rfl
    · have e : LkS σ n k i j = false := decide_eq_false (fun q => he q.2.1)
      rw [stateOf_o hV hE (by omega) (by omega), Option.bind_some, gd_t (by omega), if_neg (by omega), gd_t (by decide), if_pos rfl, zOr_0 hl2]; simp only [bsn, e]; rfl)
  refine Eq.trans this ?_
  rw [pX6_liking_c1_5, gd_t (by omega), if_pos (by omega)]
theorem ask_e (hV : Vw n (σ.2 0) (σ.2 1) (σ.2 11) (σ.2 12)) (hE : VE σ n (σ.2 0) (σ.2 1) (σ.2 11) (σ.2 12)) (hk : σ.1 6 = (k : Int)) (h5 : k ≤ 5) (hl : ∀ i, i < k → (0 ≤ σ.2 3 i ∧ σ.2 3 i ≤ 99) ∧ (0 ≤ σ.2 4 i ∧ σ.2 4 i ≤ 99)) : ∃ A, pX6_ask_c1 σ = some (sA σ 25 A) ∧ ∀ i, i < 5 → A i = ((bsn (LkS σ n k i) 7 : Nat) : Int) := by
  obtain ⟨A, m, i1, e⟩ := lp_exA (fun m i (q : Nat → Int) => pX6_ask_c1_2 m (sA σ 25 q) i) (fun c q => ∀ i, i < c → q i = ((bsn (LkS σ n k i) 7 : Nat) : Int)) 0 5 (Nat.zero_le _) (by omega) (σ.2 25) (fun j h => by omega) (fun m c q hc1 hc hI => by
    refine ⟨va_up q c ((bsn (LkS σ n k c) 7 : Nat) : Int), fun j hj => ?_, ?_⟩
    · rw [vu]
      by_cases h : j = c
      · rw [if_pos h, h]
      · rw [if_neg h]; exact hI j (by omega)
    · have hk' : (sA σ 25 q).1 6 = (k : Int) := hk
      rw [pX6_ask_c1_2, gd_t (by omega), if_neg (by omega), hasEater_e hk' h5 (by omega), Option.bind_some]
      unfold pX6_ask_c1_30
      by_cases hck : c < k
      · have e := liking_e (σ := sA σ 25 q) hV hE hk' h5 hl hck
        rw [if_pos (by omega), gd_t (by decide), if_neg (by decide), e, Option.bind_some, gd_t (by omega), nm_v, sA_sA, Int.toNat_natCast, cast1]
        rfl
      · have e : bsn (LkS σ n k c) 7 = 0 := bsn_out (n := 0) (m := 7) (Nat.zero_le _) (fun j _ _ => decide_eq_false (fun q => hck q.1))
        rw [if_neg (by omega), gd_t (by decide), if_pos rfl, gd_t (by omega), nm_v, sA_sA, Int.toNat_natCast, cast1, e]
        rfl)
  rw [sA_same] at e
  refine ⟨A, Eq.trans e ?_, i1⟩
  rw [pX6_ask_c1_2, gd_t (by omega), if_pos (by omega)]
end
section
variable {τ : St} {L : Nat → Nat → Bool}
/-- what the eater i likes of the free eggs, as a set -/
theorem lik_x (i F : Nat) (hF : F < 128) : ∃ X : Nat, X < 128 ∧ zAnd ((bsn (L i) 7 : Nat) : Int) (F : Int) = (X : Int) ∧ ∀ j : Nat, j < 7 → zAnd (zShr (X : Int) (j : Int)) 1 = if (L i j && fb F j) = true then 1 else 0 := by
  have hb := bsn_lt (L i) 7
  have hX : bsn (L i) 7 &&& F < 128 := Nat.lt_of_le_of_lt Nat.and_le_right hF
  refine ⟨bsn (L i) 7 &&& F, hX, zAnd_n _ _ (Or.inr (by omega)), fun j hj => ?_⟩
  rw [bit_n _ j (by omega) (by omega)]
  have e1 := Nat.testBit_and (bsn (L i) 7) F j
  rw [Nat.testBit_eq_decide_div_mod_eq, Nat.testBit_eq_decide_div_mod_eq, Nat.testBit_eq_decide_div_mod_eq, bsn_bit] at e1
  unfold fb
  have h2 := Nat.mod_lt ((bsn (L i) 7 &&& F) / 2 ^ j) (show 0 < 2 by decide)
  by_cases hl : L i j = true
  · rw [if_pos ⟨hj, hl⟩] at e1
    by_cases hf : F / 2 ^ j % 2 = 1
    · simp [hf] at e1
      rw [e1]; simp [hl, hf]
    · simp [hf] at e1
      rw [e1]; simp [hl, hf]
  · rw [if_neg (fun q => hl q.2)] at e1
    simp at e1
    rw [e1]; simp [hl]
theorem mp_e (hA : ∀ i, i < 5 → τ.2 25 i = ((bsn (L i) 7 : Nat) : Int)) : ∀ (m i fu F : Nat), i + m = 5 → F < 128 → pX6_mostPairs_a37 (fu + m + 1) τ (i : Int) (F : Int) = some (VV L m i F)
  | 0, i, fu, F, hi, hF => by
    obtain rfl : i = 5 := by omega
    rw [Nat.add_zero]
    show pX6_mostPairs_a37_0 _ τ _ _ = _
    unfold pX6_mostPairs_a37_0
    rw [gd_t (by decide), if_neg (by decide), gd_t (by decide), if_neg (by decide)]
    rfl
  | m + 1, i, fu, F, hi, hF => by
    have hb := VV_b (L := L) (m + 1) i F hF
    have hb0 := VV_b (L := L) m (i + 1) F hF
    have hpc : pcn F ≤ 7 := cnt_le _ 7
    show pX6_mostPairs_a37_0 (pX6_mostPairs_a37 (fu + m + 1)) τ _ _ = _
    unfold pX6_mostPairs_a37_0
    have hbc : pJ6_bitCount_0f7a4 (F : Int) = some ((pcn F : Nat) : Int) := bitCount_7 F hF
    rw [gd_t (by omega), if_neg (by omega), gd_t (by omega), if_pos (by omega), cast1, mp_e hA m (i + 1) fu F (by omega) hF, Option.bind_some, gd_t (by omega), hbc, Option.bind_some, gd_t (by omega), Int.toNat_natCast, hA i (by omega)]
    obtain ⟨X, hX, hx1, hx2⟩ := lik_x (L := L) i F hF
    rw [hx1]
    have key : ∀ (d j fv : Nat), j + d = 7 → pX6_mostPairs_a37_44 (pX6_mostPairs_a37 (fu + m + 1)) τ (fv + d + 1) (i : Int) (F : Int) (mxj (fun j => L i j && fb F j) (fun j => VV L m (i + 1) (F - 2 ^ j)) (VV L m (i + 1) F) j) (X : Int) (min (5 - (i : Int)) ((pcn F : Nat) : Int)) (j : Int) = some (VV L (m + 1) i F) := by
      intro d
      induction d with
      | zero =>
        intro j fv hj
        obtain rfl : j = 7 := by omega
        rw [pX6_mostPairs_a37_44, gd_t (by omega), if_pos (by omega)]
        rfl
      | succ d ih =>
        intro j fv hj
        have hmo := mxj_mo (P := fun j => L i j && fb F j) (g := fun j => VV L m (i + 1) (F - 2 ^ j)) (b := VV L m (i + 1) F) (k := j) (7 - j)
        have hmb := mxj_b (P := fun j => L i j && fb F j) (g := fun j => VV L m (i + 1) (F - 2 ^ j)) (b := VV L m (i + 1) F) j
        rw [show j + (7 - j) = 7 from by omega] at hmo
        have hmo : mxj (fun j => L i j && fb F j) (fun j => VV L m (i + 1) (F - 2 ^ j)) (VV L m (i + 1) F) j ≤ VV L (m + 1) i F := hmo
        have hst : mxj (fun j => L i j && fb F j) (fun j => VV L m (i + 1) (F - 2 ^ j)) (VV L m (i + 1) F) (j + 1) = if (L i j && fb F j) = true then max (mxj (fun j => L i j && fb F j) (fun j => VV L m (i + 1) (F - 2 ^ j)) (VV L m (i + 1) F) j) (1 + VV L m (i + 1) (F - 2 ^ j)) else mxj (fun j => L i j && fb F j) (fun j => VV L m (i + 1) (F - 2 ^ j)) (VV L m (i + 1) F) j := rfl
        have ihj := ih (j + 1) fv (by omega)
        rw [hst] at ihj
        generalize mxj (fun j => L i j && fb F j) (fun j => VV L m (i + 1) (F - 2 ^ j)) (VV L m (i + 1) F) j = M at hmo hmb ihj ⊢
        rw [show fv + (d + 1) + 1 = (fv + d + 1) + 1 from by omega, pX6_mostPairs_a37_44, gd_t (by omega), if_neg (by omega), gd_t (by omega)]
        by_cases hp : min (5 - (i : Int)) ((pcn F : Nat) : Int) ≤ M
        · rw [if_pos hp]
          have : M = VV L (m + 1) i F := by omega
          rw [this]
        · rw [if_neg hp, hx2 j (by omega)]
          unfold pX6_mostPairs_a37_90
          by_cases hl : (L i j && fb F j) = true
          · rw [if_pos hl] at ihj
            have hf : fb F j = true := by simp only [Bool.and_eq_true] at hl; exact hl.2
            have hb1 := VV_b (L := L) m (i + 1) (F - 2 ^ j) (sb_lt hF _)
            rw [if_pos hl, gd_t (by decide), if_pos rfl, cast1, rmb F hF j (by omega) hf, mp_e hA m (i + 1) fu (F - 2 ^ j) (by omega) (sb_lt hF _), Option.bind_some, gd_t (by omega), cast1]
            exact ihj
          · rw [if_neg hl] at ihj
            rw [if_neg hl, gd_t (by decide), if_neg (by decide), cast1]
            exact ihj
    have := key 7 0 99992 rfl
    exact this
theorem first_e (hA : ∀ i, i < 5 → τ.2 25 i = ((bsn (L i) 7 : Nat) : Int)) {m i F : Nat} (hi : i + (m + 1) = 5) (hF : F < 128) : pX6_firstEgg τ (i : Int) (F : Int) (VV L (m + 1) i F) = some (dd (pk L m i F)) := by
  have hb := VV_b (L := L) (m + 1) i F hF
  unfold pX6_firstEgg pX6_firstEgg_0 pX6_firstEgg_21
  rw [gd_t (by omega), if_neg (by omega), gd_t (by omega), if_neg (by omega), gd_t (by omega), Int.toNat_natCast, hA i (by omega)]
  obtain ⟨X, hX, hx1, hx2⟩ := lik_x (L := L) i F hF
  rw [hx1]
  have key : ∀ (d j fv : Nat), j + d = 7 → pX6_firstEgg_26 τ (fv + d + 1) (i : Int) (F : Int) (VV L (m + 1) i F) (X : Int) (j : Int) = some (dd (pkf (Qk L m i F) d j)) := by
    intro d
    induction d with
    | zero =>
      intro j fv hj
      obtain rfl : j = 7 := by omega
      rw [pX6_firstEgg_26, gd_t (by omega), if_pos (by omega)]
      rfl
    | succ d ih =>
      intro j fv hj
      have ihj := ih (j + 1) fv (by omega)
      have e : pkf (Qk L m i F) (d + 1) j = if Qk L m i F j = true then j else pkf (Qk L m i F) d (j + 1) := rfl
      rw [show fv + (d + 1) + 1 = (fv + d + 1) + 1 from by omega, pX6_firstEgg_26, gd_t (by omega), if_neg (by omega), hx2 j (by omega), e]
      unfold pX6_firstEgg_49 pX6_firstEgg_83
      by_cases hl : (L i j && fb F j) = true
      · have hf : fb F j = true := by simp only [Bool.and_eq_true] at hl; exact hl.2
        have hb1 := VV_b (L := L) m (i + 1) (F - 2 ^ j) (sb_lt hF _)
        have mp := mp_e hA m (i + 1) (6 - m) (F - 2 ^ j) (by omega) (sb_lt hF _)
        rw [show 6 - m + m + 1 = 7 from by omega] at mp
        have hQ : Qk L m i F j = decide (1 + VV L m (i + 1) (F - 2 ^ j) = VV L (m + 1) i F) := by unfold Qk; rw [hl, Bool.true_and]
        rw [if_pos hl, gd_t (by decide), if_pos rfl, gd_t (by decide), if_neg (by decide), cast1, rmb F hF j (by omega) hf, mp, Option.bind_some, gd_t (by omega), hQ]
        by_cases he : 1 + VV L m (i + 1) (F - 2 ^ j) = VV L (m + 1) i F
        · rw [if_pos he, if_pos (decide_eq_true he)]
          unfold dd
          rw [if_neg (by omega)]
        · rw [if_neg he, if_neg (by simp [he]), cast1]
          exact ihj
      · have hQ : Qk L m i F j = false := by unfold Qk; simp only [Bool.not_eq_true] at hl; rw [hl, Bool.false_and]
        rw [if_neg hl, gd_t (by decide), if_neg (by decide), gd_t (by decide), if_pos rfl, hQ, if_neg (by decide), cast1]
        exact ihj
  exact key 7 0 99992 rfl
theorem eggFor_l (hA : ∀ i, i < 5 → τ.2 25 i = ((bsn (L i) 7 : Nat) : Int)) {i : Nat} (hi : i < 5) : ∀ (d s m F fu : Nat) (r : Int), s + m = 5 → s + d = i + 1 → F < 128 → pX6_eggFor_14 τ (fu + d + 1) (i : Int) (F : Int) (VV L m s F) r (s : Int) = some (if d = 0 then r else dd (dgt L m s F (d - 1))) := by
  intro d
  induction d with
  | zero =>
    intro s m F fu r hs hd hF
    rw [pX6_eggFor_14, gd_t (by omega), if_pos (by omega), if_pos rfl]
  | succ d ih =>
    intro s m F fu r hs hd hF
    obtain ⟨m, rfl⟩ : ∃ m', m = m' + 1 := ⟨m - 1, by omega⟩
    have hp := pk_ok (L := L) m s F
    have hV := nx_V (L := L) m s F
    have hn := nx_lt (L := L) m s F hF
    have ihn := ih (s + 1) m (nx L m s F) fu (dd (pk L m s F)) (by omega) (by omega) hn
    rw [show fu + (d + 1) + 1 = (fu + d + 1) + 1 from by omega, pX6_eggFor_14, gd_t (by omega), if_neg (by omega), gd_t (by omega), if_neg (by omega), first_e hA hs hF, Option.bind_some]
    unfold pX6_eggFor_54
    have hr : (if d + 1 = 0 then r else dd (dgt L (m + 1) s F (d + 1 - 1))) = (if d = 0 then dd (pk L m s F) else dd (dgt L m (s + 1) (nx L m s F) (d - 1))) := by
      rw [if_neg (by omega)]
      cases d with
      | zero => rfl
      | succ d => rfl
    rw [hr]
    rw [hV] at ihn
    unfold nx at ihn
    unfold nx
    by_cases h7 : pk L m s F = 7
    · have e : dd (pk L m s F) = -1 := by unfold dd; rw [if_pos h7]
      rw [if_pos h7, if_pos h7, e, Int.sub_zero] at ihn
      rw [e, gd_t (by decide), if_pos rfl, cast1, if_pos h7]
      exact ihn
    · have e : dd (pk L m s F) = ((pk L m s F : Nat) : Int) := by unfold dd; rw [if_neg h7]
      have hQ := hp.2.1 (by omega)
      have hf : fb F (pk L m s F) = true := by unfold Qk at hQ; simp only [Bool.and_eq_true] at hQ; exact hQ.1.2
      rw [if_neg h7, if_neg h7, e] at ihn
      rw [e, gd_t (by omega), if_neg (by omega), cast1, rmb F hF _ (by omega) hf, if_neg h7]
      exact ihn
theorem most_e (hA : ∀ i, i < 5 → τ.2 25 i = ((bsn (L i) 7 : Nat) : Int)) : pX6_most τ = some (VV L 5 0 127) := by
  unfold pX6_most pX6_most_0
  rw [show pX6_mostPairs_a37 7 τ 0 127 = some (VV L 5 0 127) from mp_e hA 5 0 1 127 rfl (by decide), Option.bind_some]
theorem eggFor_e (hA : ∀ i, i < 5 → τ.2 25 i = ((bsn (L i) 7 : Nat) : Int)) {i : Nat} (hi : i < 5) : pX6_eggFor τ (i : Int) = some (dd (dgt L 5 0 127 i)) := by
  unfold pX6_eggFor pX6_eggFor_0
  rw [most_e hA, Option.bind_some]
  have := eggFor_l hA hi (i + 1) 0 5 127 (99999 - (i + 1)) (-1) rfl (by omega) (by decide)
  rw [show 99999 - (i + 1) + (i + 1) + 1 = FU from by unfold FU; omega, if_neg (by omega)] at this
  exact this
end
