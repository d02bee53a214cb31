/-! what holds between the class's state and the reference's -/
def M20 (n : Int) (r w : Nat → Int) : Prop :=
  (∀ e : Nat, (e : Int) < n → (r e = w e ∧ 0 ≤ r e ∧ r e ≤ 5) ∧ (r (7 + e) = w (7 + e) ∧ 0 ≤ r (7 + e) ∧ r (7 + e) ≤ r 17)) ∧
  (r 16 = w 14 ∧ 0 ≤ r 16 ∧ r 16 ≤ 999) ∧ (r 15 = w 15 ∧ 0 ≤ r 15 ∧ r 15 ≤ 100) ∧ (r 17 = w 16 ∧ 0 ≤ r 17 ∧ r 17 ≤ 9060) ∧ (r 18 = w 17 ∧ 0 ≤ r 18 ∧ r 18 ≤ r 17) ∧ (r 19 = w 18 ∧ 0 ≤ r 19 ∧ r 19 ≤ r 17) ∧
  ((r 14 = -1 ∧ (∀ e : Nat, (e : Int) < n → r e ≠ 3) ∧ r 15 = 0) ∨ (∃ k : Nat, r 14 = (k : Int) ∧ (k : Int) < n ∧ r k = 3 ∧ (∀ e : Nat, (e : Int) < n → r e = 3 → e = k) ∧ 1 ≤ r 15))
def mv (σ : St) : Nat → Int := fun j => if j < 7 then σ.2 11 j else if j < 14 then σ.2 12 (j - 7) else σ.1 (j + 2)
def RT (σ μ : St) : Prop := σ.1 2 = μ.1 0 ∧ σ.1 4 = μ.1 1 ∧ σ.1 5 = μ.1 2 ∧ σ.1 6 = μ.1 3 ∧ (0 ≤ σ.1 2 ∧ σ.1 2 ≤ 3) ∧ (0 ≤ σ.1 4 ∧ σ.1 4 ≤ 30) ∧ (0 ≤ σ.1 5 ∧ σ.1 5 ≤ 7) ∧ (0 ≤ σ.1 6 ∧ σ.1 6 ≤ 5) ∧ (σ.1 2 = 0 → σ.1 5 = 0 ∧ σ.1 6 = 0) ∧
  (∀ e : Nat, (e : Int) < σ.1 5 → (σ.2 0 e = μ.2 0 e ∧ 0 ≤ σ.2 0 e ∧ σ.2 0 e ≤ 30) ∧ (σ.2 1 e = μ.2 1 e ∧ 1 ≤ σ.2 1 e ∧ σ.2 1 e ≤ 5) ∧ (σ.2 2 e = μ.2 4 e ∧ 1 ≤ σ.2 2 e ∧ σ.2 2 e ≤ 30)) ∧
  (∀ i : Nat, (i : Int) < σ.1 6 → (σ.2 3 i = μ.2 2 i ∧ 0 ≤ σ.2 3 i ∧ σ.2 3 i ≤ 99) ∧ (σ.2 4 i = μ.2 3 i ∧ 0 ≤ σ.2 4 i ∧ σ.2 4 i ≤ 99))
def RX (σ μ : St) : Prop := σ.1 7 = μ.1 5 ∧ (0 ≤ σ.1 7 ∧ σ.1 7 ≤ 240) ∧ ∀ j : Nat, (j : Int) < σ.1 7 → σ.2 5 j = μ.2 6 j ∧ 0 ≤ σ.2 5 j ∧ σ.2 5 j ≤ 255
def RF (σ μ : St) : Prop := (σ.1 0 = μ.1 6 ∧ -1 ≤ σ.1 0 ∧ σ.1 0 ≤ 240) ∧ (σ.1 1 = μ.1 4 ∧ 0 ≤ σ.1 1 ∧ σ.1 1 ≤ 2147483647)
def RN (σ μ : St) : Prop :=
    (∀ e : Nat, (e : Int) < σ.1 5 → (σ.2 11 e = μ.2 5 e ∧ 0 ≤ σ.2 11 e ∧ σ.2 11 e ≤ 5) ∧ (σ.2 12 e = μ.2 5 (7 + e) ∧ 0 ≤ σ.2 12 e ∧ σ.2 12 e ≤ σ.1 19)) ∧
    (σ.1 18 = μ.2 5 14 ∧ 0 ≤ σ.1 18 ∧ σ.1 18 ≤ 999) ∧ (σ.1 17 = μ.2 5 15 ∧ 0 ≤ σ.1 17 ∧ σ.1 17 ≤ 100) ∧ (σ.1 19 = μ.2 5 16 ∧ 0 ≤ σ.1 19 ∧ σ.1 19 ≤ 9060) ∧ (σ.1 20 = μ.2 5 17 ∧ 0 ≤ σ.1 20 ∧ σ.1 20 ≤ σ.1 19) ∧ (σ.1 21 = μ.2 5 18 ∧ 0 ≤ σ.1 21 ∧ σ.1 21 ≤ σ.1 19) ∧
    ((σ.1 16 = -1 ∧ (∀ e : Nat, (e : Int) < σ.1 5 → σ.2 11 e ≠ 3) ∧ σ.1 17 = 0) ∨ (∃ k : Nat, σ.1 16 = (k : Int) ∧ (k : Int) < σ.1 5 ∧ σ.2 11 k = 3 ∧ (∀ e : Nat, (e : Int) < σ.1 5 → σ.2 11 e = 3 → e = k) ∧ 1 ≤ σ.1 17))
def RP (σ μ : St) : Prop := (0 ≤ σ.1 22 ∧ σ.1 22 ≤ 19) ∧ σ.1 23 = μ.1 12 ∧ (0 ≤ σ.1 23 ∧ σ.1 23 ≤ 20) ∧ ∀ i : Nat, (i : Int) < σ.1 23 → M20 (σ.1 5) (fun j => σ.2 13 (20 * (((σ.1 22).toNat + i) % 20) + j)) (fun j => μ.2 12 (19 * i + j))
def RI (σ μ : St) : Prop := ∀ i : Nat, i < 2 → σ.2 16 i = μ.2 24 i ∧ (σ.2 16 i = 0 ∨ σ.2 16 i = 1) ∧ (σ.2 16 i = 1 → M20 (σ.1 5) (fun j => σ.2 14 (20 * i + j)) (fun j => μ.2 23 (20 * i + j)) ∧ σ.2 15 i = μ.2 23 (20 * i + 19) ∧ 0 ≤ σ.2 15 i ∧ σ.2 15 i ≤ 2147483647)
def RC (σ μ : St) : Prop := σ.1 24 = μ.1 13 ∧ (0 ≤ σ.1 24 ∧ σ.1 24 ≤ 6) ∧ ∀ i : Nat, (i : Int) < σ.1 24 → (σ.2 17 i = μ.2 18 i ∧ 1 ≤ σ.2 17 i ∧ σ.2 17 i ≤ 9) ∧ (σ.2 18 i = μ.2 19 i ∧ 0 ≤ σ.2 18 i ∧ σ.2 18 i ≤ 30)
def RB (σ μ : St) : Prop := σ.1 25 = μ.1 14 ∧ (0 ≤ σ.1 25 ∧ σ.1 25 ≤ 15) ∧ ∀ i : Nat, (i : Int) < σ.1 25 → (σ.2 19 i = μ.2 21 i ∧ 0 ≤ σ.2 19 i ∧ σ.2 19 i < σ.1 5) ∧ (σ.2 20 i = μ.2 22 i ∧ 0 ≤ σ.2 20 i ∧ σ.2 20 i ≤ 5)
def Rel (σ μ : St) : Prop := RT σ μ ∧ RX σ μ ∧ RF σ μ ∧ RN σ μ ∧ RP σ μ ∧ RI σ μ ∧ RC σ μ ∧ RB σ μ
def Al (f g : Option (Int × St)) : Prop := ∃ r τ ν, f = some (r, τ) ∧ g = some (r, ν) ∧ Rel τ ν
def AlR (f g : Option Int) : Prop := ∃ r, f = some r ∧ g = some r
theorem AlR.same {f : Option Int} (h : ∃ r, f = some r) : ∃ r, f = some r ∧ f = some r := by obtain ⟨r, h⟩ := h; exact ⟨r, h, h⟩
theorem ex_ite {c : Prop} [Decidable c] {a b : Option Int} (ha : ∃ r, a = some r) (hb : ∃ r, b = some r) : ∃ r, (if c then a else b) = some r := by
  by_cases h : c
  · rw [if_pos h]; exact ha
  · rw [if_neg h]; exact hb
theorem mv_s (σ : St) {e : Nat} (h : e < 7) : mv σ e = σ.2 11 e := if_pos h
theorem mv_b (σ : St) {e : Nat} (h : e < 7) : mv σ (7 + e) = σ.2 12 e := by
  unfold mv
  rw [if_neg (by omega), if_pos (by omega)]
  rw [Nat.add_sub_cancel_left]
theorem RN.of20 {σ μ : St} (h : M20 (σ.1 5) (mv σ) (μ.2 5)) (h7 : σ.1 5 ≤ 7) : RN σ μ := by
  obtain ⟨h1, h2, h3, h4, h5, h6, h8⟩ := h
  refine ⟨fun e he => ?_, h2, h3, h4, h5, h6, ?_⟩
  · have := h1 e he
    rw [mv_s σ (by omega), mv_b σ (by omega)] at this
    exact this
  · rcases h8 with ⟨a, b, c⟩ | ⟨k, a, b, c, d, e⟩
    · exact Or.inl ⟨a, fun e he => by have := b e he; rw [mv_s σ (by omega)] at this; exact this, c⟩
    · refine Or.inr ⟨k, a, b, by rw [mv_s σ (by omega)] at c; exact c, fun e he q => d e he (by rw [mv_s σ (by omega)]; exact q), e⟩
theorem RN.m20 {σ μ : St} (h : RN σ μ) (h7 : σ.1 5 ≤ 7) : M20 (σ.1 5) (mv σ) (μ.2 5) := by
  obtain ⟨h1, h2, h3, h4, h5, h6, h8⟩ := h
  refine ⟨fun e he => ?_, h2, h3, h4, h5, h6, ?_⟩
  · rw [mv_s σ (by omega), mv_b σ (by omega)]
    exact h1 e he
  · rcases h8 with ⟨a, b, c⟩ | ⟨k, a, b, c, d, e⟩
    · exact Or.inl ⟨a, fun e he => by rw [mv_s σ (by omega)]; exact b e he, c⟩
    · exact Or.inr ⟨k, a, b, by rw [mv_s σ (by omega)]; exact c, fun e he q => d e he (by rw [mv_s σ (by omega)] at q; exact q), e⟩
/-- both views at once -/
theorem Rel.vw {σ μ : St} (h : Rel σ μ) : ∃ n : Nat, Vw n (σ.2 0) (σ.2 1) (σ.2 11) (σ.2 12) ∧ VE σ n (σ.2 0) (σ.2 1) (σ.2 11) (σ.2 12) ∧ VM μ n (σ.2 0) (σ.2 1) (σ.2 11) (σ.2 12) := by
  obtain ⟨⟨-, -, t3, -, -, -, t7, -, -, tE, -⟩, -, -, hN, -⟩ := h
  obtain ⟨n1, -, -, n4, -⟩ := id hN
  obtain ⟨n, hn⟩ := Int.eq_ofNat_of_zero_le t7.1
  refine ⟨n, ⟨by omega, fun e he => ?_⟩, ⟨hn, fun e he => ⟨rfl, rfl, rfl, rfl⟩⟩, ⟨by omega, fun e he => ?_⟩⟩
  · have a := tE e (by omega)
    have b := n1 e (by omega)
    omega
  · have a := tE e (by omega)
    have b := n1 e (by omega)
    exact ⟨a.1.1.symm, a.2.1.1.symm, b.1.1.symm, b.2.1.symm⟩
section
variable {σ μ : St}
theorem isEgg_m {n : Nat} (hn : μ.1 2 = (n : Int)) (h7 : n ≤ 7) {x : Int} (hx : rg x) : pX11_isEgg μ x = some (if 0 ≤ x ∧ x < (n : Int) then 1 else 0) := by
  unfold pX11_isEgg pX11_isEgg_0
  rw [hn, gd_t hx, gd_t (by omega), in_e hx (by decide) (by omega), Option.bind_some]
  by_cases h : 0 ≤ x ∧ x < (n : Int)
  · rw [if_pos h, if_pos (by omega), gd_t (by decide)]
  · rw [if_neg h, if_neg (by omega), gd_t (by decide)]
theorem isEater_m {n : Nat} (hn : μ.1 3 = (n : Int)) (h7 : n ≤ 5) {x : Int} (hx : rg x) : pX11_isEater μ x = some (if 0 ≤ x ∧ x < (n : Int) then 1 else 0) := by
  unfold pX11_isEater pX11_isEater_0
  rw [hn, gd_t hx, gd_t (by omega), in_e hx (by decide) (by omega), Option.bind_some]
  by_cases h : 0 ≤ x ∧ x < (n : Int)
  · rw [if_pos h, if_pos (by omega), gd_t (by decide)]
  · rw [if_neg h, if_neg (by omega), gd_t (by decide)]
theorem hasEater_e {n : Nat} (hn : σ.1 6 = (n : Int)) (h7 : n ≤ 5) {x : Int} (hx : rg x) : pX8_hasEater_c1 σ x = some (if 0 ≤ x ∧ x < (n : Int) then 1 else 0) := by
  unfold pX8_hasEater_c1 pX8_hasEater_c1_0
  rw [hn]
  by_cases h : 0 ≤ x ∧ x < n
  · simp (disch := omega) only [gd_t, if_neg, if_pos]
  · by_cases h0 : x < 0
    · simp (disch := omega) only [gd_t, if_neg, if_pos]
    · simp (disch := omega) only [gd_t, if_neg, if_pos]
theorem feed_q (h : Rel σ μ) {x : Int} (hx : rg x) : Al (pX10_feed σ x) (pX11_feed μ x) := by
  obtain ⟨hT, ⟨x1, x2, x3⟩, hF, hN, hP, hI, hC, hB⟩ := id h
  unfold Al pX10_feed pX10_feed_0 pX9_add pX9_add_0 pX9_length pX9_length_0 pX11_feed pX11_feed_0
  rw [within_e hx (by decide) (by decide), in_e hx (by decide) (by decide), gd_t hx]
  by_cases hc : 0 ≤ x ∧ x ≤ 255
  · rw [if_pos hc]
    simp only [Option.bind_some]
    by_cases hf : σ.1 7 = 240
    · refine ⟨-1000000004, σ, μ, ?_, ?_, h⟩
      · simp (disch := omega) only [gd_t, if_neg, if_pos, Option.bind_some, nm, ite_true]
      · simp (disch := omega) only [gd_t, if_neg, if_pos, Option.bind_some, nm]
    · obtain ⟨c, hc'⟩ := Int.eq_ofNat_of_zero_le x2.1
      refine ⟨σ.1 7 + 1, sI (sA σ 5 (va_up (σ.2 5) c x)) 7 (σ.1 7 + 1), sI (sA μ 6 (va_up (μ.2 6) c x)) 5 (μ.1 5 + 1), ?_, ?_, hT, ⟨?_, ?_, ?_⟩, hF, hN, hP, hI, hC, hB⟩
      · rw [hc']
        simp (disch := omega) only [gd_t, if_neg, if_pos, Option.bind_some, nm, sA_1, sI_1, hc', Int.toNat_natCast, ite_true]
      · rw [← x1, hc']
        simp (disch := omega) only [gd_t, if_neg, if_pos, Option.bind_some, nm, sA_1, sI_1, ← x1, hc', Int.toNat_natCast, ite_true]
      · show σ.1 7 + 1 = μ.1 5 + 1
        omega
      · show 0 ≤ σ.1 7 + 1 ∧ σ.1 7 + 1 ≤ 240
        omega
      · intro j hj
        have hj : (j : Int) < σ.1 7 + 1 := hj
        show va_up (σ.2 5) c x j = va_up (μ.2 6) c x j ∧ 0 ≤ va_up (σ.2 5) c x j ∧ va_up (σ.2 5) c x j ≤ 255
        rw [vu, vu]
        by_cases hjc : j = c
        · rw [if_pos hjc, if_pos hjc]; omega
        · rw [if_neg hjc, if_neg hjc]; exact x3 j (by omega)
  · rw [if_neg hc]
    refine ⟨-1000000002, σ, μ, ?_, ?_, h⟩
    · simp (disch := omega) only [gd_t, Option.bind_some, ite_true]
    · simp (disch := omega) only [gd_t, Option.bind_some, ite_true]
theorem fault_q (h : Rel σ μ) : AlR (pX10_fault σ) (pX11_fault μ) := ⟨σ.1 0, rfl, by rw [h.2.2.1.1.1]; rfl⟩
theorem told_q (h : Rel σ μ) {x : Int} (hx : rg x) : AlR (pX10_told σ x) (pX11_told μ x) := by
  obtain ⟨n, hV, hE, hM⟩ := h.vw
  obtain ⟨⟨t1, t2, t3, t4, t5, t6, t7, t8, t9, tE, tA⟩, ⟨x1, x2, x3⟩, hF, hN, ⟨-, p2, -⟩, hI, ⟨c1, -⟩, ⟨b1, -⟩⟩ := id h
  obtain ⟨n1, n2, n3, n4, n5, n6, n8⟩ := id hN
  have hk : pX11_king μ = some (σ.1 16) := by
    rcases n8 with ⟨q1, q2, -⟩ | ⟨k, q1, q2, q3, q4, -⟩
    · rw [q1]; exact king_n hV hM (fun e he => q2 e (by have := hE.1; omega))
    · rw [q1]; exact king_m hV hM (by have := hE.1; omega) q3 (fun e he q => q4 e (by have := hE.1; omega) q)
  unfold AlR pX10_told pX10_told_0 pX11_told pX11_told_0 pX9_length pX9_length_0
  rw [gd_t hx, gd_t hx]
  simp only [setThat_e hV hE (s := 1) (by decide), setThat_e hV hE (s := 2) (by decide), allThat_m hV hM (s := 1) (by decide), allThat_m hV hM (s := 2) (by decide), pret_e hV hE, pret_m hV hM, heir_e hV hE, heir_m hV hM, hk, Option.bind_some, ← t1, ← t2, ← t3, ← t4, ← x1, ← n2.1, ← n3.1, ← n4.1, ← n5.1, ← n6.1, ← p2, ← c1, ← b1]
  exact AlR.same (by repeat (first | exact ⟨_, rfl⟩ | refine ex_ite ⟨_, rfl⟩ ?_))
theorem egg_q (h : Rel σ μ) {x y : Int} (hx : rg x) (hy : rg y) : AlR (pX10_egg σ x y) (pX11_egg μ x y) := by
  obtain ⟨n, hV, hE, hM⟩ := h.vw
  obtain ⟨⟨t1, t2, t3, t4, t5, t6, t7, t8, t9, tE, tA⟩, -⟩ := id h
  have h7 := hV.1
  have hn := hE.1
  unfold AlR pX10_egg pX10_egg_0 pX11_egg pX11_egg_0
  rw [hasEgg_e hE.1 h7 hx, isEgg_m hM.1 h7 hx, Option.bind_some, Option.bind_some]
  by_cases hc : 0 ≤ x ∧ x < (n : Int)
  · obtain ⟨e, rfl⟩ := Int.eq_ofNat_of_zero_le hc.1
    have he : e < n := by omega
    have e7 : Int.toNat (7 + (e : Int)) = 7 + e := by omega
    have ha : pX8_ageOf_c1 σ (e : Int) = some (σ.2 0 e) := by
      unfold pX8_ageOf_c1 pX8_ageOf_c1_0
      rw [hasEgg_e hE.1 h7 hx, if_pos hc]
      simp (disch := omega) only [gd_t, if_neg, Option.bind_some, Int.toNat_natCast]
    have hw : pX8_wishOf_c1 σ (e : Int) = some (σ.2 2 e) := by
      unfold pX8_wishOf_c1 pX8_wishOf_c1_0
      rw [hasEgg_e hE.1 h7 hx, if_pos hc]
      simp (disch := omega) only [gd_t, if_neg, Option.bind_some, Int.toNat_natCast]
    have q := hM.2 e he
    rw [if_pos hc, ha, hw, sizeOf_e hV hE he, stateOf_e hV hE he, boiledOf_e hV hE he, hardnessOf_e hV hE he, reignOf_e hV hE he, hard_m hV hM he, reign_m hV hM he, e7]
    simp (disch := omega) only [gd_t, if_neg, Option.bind_some, Int.toNat_natCast, q.1, q.2.1, q.2.2.1, q.2.2.2, ← (tE e (by omega)).2.2.1]
    exact AlR.same (by repeat (first | exact ⟨_, rfl⟩ | refine ex_ite ⟨_, rfl⟩ ?_))
  · rw [if_neg hc]
    exact ⟨-1000000001, by rw [gd_t (by decide), if_pos rfl], by rw [gd_t (by decide), if_pos rfl]⟩
theorem eater_q (h : Rel σ μ) {x y : Int} (hx : rg x) (hy : rg y) : AlR (pX10_eater σ x y) (pX11_eater μ x y) := by
  obtain ⟨⟨t1, t2, t3, t4, t5, t6, t7, t8, t9, tE, tA⟩, -⟩ := id h
  obtain ⟨n, hn⟩ := Int.eq_ofNat_of_zero_le t8.1
  have h5 : n ≤ 5 := by omega
  unfold AlR pX10_eater pX10_eater_0 pX11_eater pX11_eater_0 pX8_softestFor_c1 pX8_hardestFor_c1 pX8_softestFor_c1_0 pX8_hardestFor_c1_0
  rw [hasEater_e hn h5 hx, isEater_m (by omega) h5 hx]
  by_cases hc : 0 ≤ x ∧ x < (n : Int)
  · obtain ⟨e, rfl⟩ := Int.eq_ofNat_of_zero_le hc.1
    have q := tA e (by omega)
    rw [if_pos hc]
    simp (disch := omega) only [gd_t, if_neg, Option.bind_some, Int.toNat_natCast, ← q.1.1, ← q.2.1]
    exact AlR.same (by repeat (first | exact ⟨_, rfl⟩ | refine ex_ite ⟨_, rfl⟩ ?_))
  · rw [if_neg hc]
    exact ⟨-1000000001, by rw [Option.bind_some, gd_t (by decide), if_pos rfl], by rw [Option.bind_some, gd_t (by decide), if_pos rfl]⟩
theorem goose_q (h : Rel σ μ) {x y : Int} (hx : rg x) (hy : rg y) : AlR (pX10_goose σ x y) (pX11_goose μ x y) := by
  obtain ⟨⟨t1, t2, t3, t4, t5, t6, t7, t8, t9, tE, tA⟩, -⟩ := id h
  obtain ⟨n, hn⟩ := Int.eq_ofNat_of_zero_le t8.1
  have h5 : n ≤ 5 := by omega
  unfold AlR pX10_goose pX10_goose_0 pX11_goose pX11_goose_0 pX10_goose_67 pX11_goose_44
  rw [hasEater_e hn h5 hy, isEater_m (by omega) h5 hy, within_e hx (by decide) (by decide), in_e hx (by decide) (by decide), ← t4, hn]
  by_cases hc : 0 ≤ y ∧ y < (n : Int)
  · rw [if_pos hc]
    by_cases hq : 0 ≤ x ∧ x ≤ 999
    · have hm := Int.emod_lt_of_pos x (show (0 : Int) < n by omega)
      have hm2 := Int.emod_nonneg x (show (n : Int) ≠ 0 by omega)
      rw [if_pos hq]
      simp (disch := omega) only [gd_t, if_neg, if_pos, Option.bind_some]
      exact AlR.same (by repeat (first | exact ⟨_, rfl⟩ | refine ex_ite ⟨_, rfl⟩ ?_))
    · rw [if_neg hq]
      simp (disch := omega) only [gd_t, if_neg, if_pos, Option.bind_some, ite_true]
      exact AlR.same (by repeat (first | exact ⟨_, rfl⟩ | refine ex_ite ⟨_, rfl⟩ ?_))
  · rw [if_neg hc]
    exact ⟨-1000000001, by rw [Option.bind_some, gd_t (by decide), if_pos rfl], by rw [Option.bind_some, gd_t (by decide), if_pos rfl]⟩
end
