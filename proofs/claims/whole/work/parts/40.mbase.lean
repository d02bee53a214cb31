/-! bits as whole numbers -/
theorem zI_nat (n : Nat) : zI (n : Int) = nI n := Int32.ofInt_eq_ofNat
theorem zL_nat (n : Nat) : zL (n : Int) = lN n := Int64.ofInt_eq_ofNat
theorem nI_toI {n : Nat} (h : n < 2147483648) : (nI n).toInt = (n : Int) := nI_toInt (by omega)
theorem zAnd_n (a b : Nat) (h : a < 2147483648 ∨ b < 2147483648) : zAnd a b = ((a &&& b : Nat) : Int) := by
  unfold zAnd
  have e : nI a &&& nI b = nI (a &&& b) := Int32.toBitVec_inj.mp (by show BitVec.ofNat 32 a &&& BitVec.ofNat 32 b = BitVec.ofNat 32 (a &&& b); rw [BitVec.ofNat_and])
  rw [zI_nat, zI_nat, e, nI_toI]
  rcases h with h | h
  · exact Nat.lt_of_le_of_lt Nat.and_le_left h
  · exact Nat.lt_of_le_of_lt Nat.and_le_right h
theorem zOr_n (a b k : Nat) (hk : k ≤ 31) (ha : a < 2 ^ k) (hb : b < 2 ^ k) : zOr a b = ((a ||| b : Nat) : Int) := by
  unfold zOr
  have e : nI a ||| nI b = nI (a ||| b) := Int32.toBitVec_inj.mp (by show BitVec.ofNat 32 a ||| BitVec.ofNat 32 b = BitVec.ofNat 32 (a ||| b); rw [BitVec.ofNat_or])
  rw [zI_nat, zI_nat, e, nI_toI]
  have h1 := Nat.or_lt_two_pow ha hb
  have h2 : 2 ^ k ≤ 2 ^ 31 := Nat.pow_le_pow_right (by decide) hk
  omega
theorem zShl1 : ∀ k : Nat, k < 31 → zShl 1 (k : Int) = ((2 ^ k : Nat) : Int) := by decide +kernel
theorem s_lz : ∀ n, n < 32 → ((nI n &&& 31).toBitVec.smod 32).toNat = n := by decide +kernel
theorem zShr_n (a k : Nat) (ha : a < 2147483648) (hk : k < 32) : zShr a k = ((a / 2 ^ k : Nat) : Int) := by
  unfold zShr
  rw [zI_nat, zI_nat, pk_shrN ha _ k (s_lz k hk), nI_toI]
  exact Nat.lt_of_le_of_lt (Nat.div_le_self _ _) ha
theorem zAnd1 (a : Nat) (ha : a < 2147483648) : zAnd a 1 = ((a % 2 : Nat) : Int) := by
  have := zAnd_n a 1 (Or.inl ha)
  rw [Nat.and_one_is_mod] at this
  exact this
/-- the set of the numbers below k that have P -/
def bsn (P : Nat → Bool) : Nat → Nat
  | 0 => 0
  | k + 1 => if P k then bsn P k + 2 ^ k else bsn P k
theorem bsn_lt (P : Nat → Bool) : ∀ k, bsn P k < 2 ^ k
  | 0 => by show 0 < 2 ^ 0; decide
  | k + 1 => by
    have := bsn_lt P k
    show (if P k then bsn P k + 2 ^ k else bsn P k) < _
    rw [Nat.pow_succ]
    split <;> omega
theorem bsn_lt31 (P : Nat → Bool) {k : Nat} (h : k ≤ 31) : bsn P k < 2147483648 := Nat.lt_of_lt_of_le (bsn_lt P k) (Nat.pow_le_pow_right (by decide) h)
theorem bsn_ext {P Q : Nat → Bool} : ∀ {n : Nat}, (∀ k, k < n → P k = Q k) → bsn P n = bsn Q n
  | 0, _ => rfl
  | n + 1, h => by
    show (if P n then _ else _) = (if Q n then _ else _)
    rw [h n (by omega), bsn_ext (n := n) (fun k hk => h k (by omega))]
theorem bsn_out {P : Nat → Bool} {n : Nat} : ∀ {m : Nat}, n ≤ m → (∀ k, n ≤ k → k < m → P k = false) → bsn P m = bsn P n
  | 0, h, _ => by obtain rfl : n = 0 := by omega
                  rfl
  | m + 1, h, hP => by
    by_cases e : n = m + 1
    · rw [e]
    · show (if P m then _ else _) = _
      rw [hP m (by omega) (by omega), if_neg (by decide), bsn_out (m := m) (by omega) (fun k h1 h2 => hP k h1 (by omega))]
theorem bsn_bit (P : Nat → Bool) : ∀ (n k : Nat), bsn P n / 2 ^ k % 2 = if k < n ∧ P k = true then 1 else 0
  | 0, k => by simp [bsn]
  | n + 1, k => by
    have ih := bsn_bit P n k
    have hlt := bsn_lt P n
    show (if P n then bsn P n + 2 ^ n else bsn P n) / 2 ^ k % 2 = _
    by_cases hk : k < n
    · have e : 2 ^ n = 2 ^ (n - k - 1) * 2 * 2 ^ k := by rw [Nat.mul_assoc, ← Nat.pow_succ', ← Nat.pow_add]; congr 1; omega
      have h0 : 0 < 2 ^ k := Nat.pow_pos (by decide)
      split
      · rw [e, Nat.add_mul_div_right _ _ h0, Nat.add_mul_mod_self_right, ih]
        congr 1
        simp [hk, Nat.lt_succ_of_lt hk]
      · rw [ih]
        congr 1
        simp [hk, Nat.lt_succ_of_lt hk]
    · by_cases he : k = n
      · subst he
        have h0 : 0 < 2 ^ k := Nat.pow_pos (by decide)
        split
        · rename_i hp
          rw [Nat.add_div_right _ h0, Nat.div_eq_of_lt hlt]
          simp [hp]
        · rename_i hp
          rw [Nat.div_eq_of_lt hlt]
          simp [hp]
      · have h2 : 2 ^ (n + 1) ≤ 2 ^ k := Nat.pow_le_pow_right (by decide) (by omega)
        have h3 := bsn_lt P (n + 1)
        have h4 : (if P n then bsn P n + 2 ^ n else bsn P n) = bsn P (n + 1) := rfl
        rw [h4, Nat.div_eq_of_lt (by omega)]
        rw [if_neg (by omega)]
theorem zOr_bit {a k : Nat} (hk : k < 31) (ha : a < 2 ^ k) : zOr (a : Int) (zShl 1 (k : Int)) = ((a + 2 ^ k : Nat) : Int) := by
  have h2 : 2 ^ k < 2 ^ (k + 1) := by rw [Nat.pow_succ]; have : 0 < 2 ^ k := Nat.pow_pos (by decide); omega
  rw [zShl1 k hk, zOr_n a (2 ^ k) (k + 1) (by omega) (by omega) h2]
  congr 1
  have := Nat.two_pow_add_eq_or_of_lt ha 1
  rw [Nat.mul_one] at this
  rw [Nat.or_comm, ← this, Nat.add_comm]
theorem zOr_0 {a : Nat} (ha : a < 2147483648) : zOr (a : Int) 0 = (a : Int) := by
  have := zOr_n a 0 31 (by decide) (by omega) (by decide)
  rw [Nat.or_zero] at this
  exact this
/-- states, written and read -/
theorem sI_1 (σ : St) (k j : Nat) (v : Int) : (sI σ k v).1 j = if j = k then v else σ.1 j := rfl
theorem sI_2 (σ : St) (k : Nat) (v : Int) : (sI σ k v).2 = σ.2 := rfl
theorem sA_1 (σ : St) (k : Nat) (g : Nat → Int) : (sA σ k g).1 = σ.1 := rfl
theorem sA_2 (σ : St) (k j : Nat) (g : Nat → Int) : (sA σ k g).2 j = if j = k then g else σ.2 j := rfl
theorem vu (f : Nat → Int) (k j : Nat) (v : Int) : va_up f k v j = if j = k then v else f j := rfl
theorem zCmp_lt0 (a b : Int) : zCmp a b < 0 ↔ a < b := by
  unfold zCmp; split
  · omega
  · split <;> omega
theorem zCmp_gt0 (a b : Int) : 0 < zCmp a b ↔ b < a := by
  unfold zCmp; split
  · omega
  · split <;> omega
theorem zCmp_rg (a b : Int) : rg (zCmp a b) := by
  unfold zCmp rg; split
  · omega
  · split <;> omega
theorem within_e {x a b : Int} (hx : rg x) (ha : rg a) (hb : rg b) : pX10_isWithin x a b = some (if a ≤ x ∧ x ≤ b then 1 else 0) := by
  unfold pX10_isWithin pX10_isWithin_0
  rw [gd_t ⟨hx, ha⟩, gd_t ⟨hx, hb⟩]
  by_cases h1 : x < a
  · rw [if_pos h1, if_neg (by omega)]
  · by_cases h2 : b < x
    · rw [if_neg h1, if_pos h2, if_neg (by omega)]
    · rw [if_neg h1, if_neg h2, if_pos (by omega)]
theorem in_e {x a b : Int} (hx : rg x) (ha : rg a) (hb : rg b) : pX11_in x a b = some (if a ≤ x ∧ x ≤ b then 1 else 0) := by
  have f : ∀ {z : Int}, rg z → rgL z := fun h => ⟨by have := h.1; omega, by have := h.2; omega⟩
  unfold pX11_in pX11_in_0
  rw [gd_t ⟨f hx, f ha⟩, gd_t (zCmp_rg _ _), gd_t ⟨f hx, f hb⟩, gd_t (zCmp_rg _ _)]
  by_cases h1 : x < a
  · rw [if_pos ((zCmp_lt0 _ _).mpr h1), if_neg (by omega)]
  · by_cases h2 : b < x
    · rw [if_neg (fun q => h1 ((zCmp_lt0 _ _).mp q)), if_pos ((zCmp_gt0 _ _).mpr h2), if_neg (by omega)]
    · rw [if_neg (fun q => h1 ((zCmp_lt0 _ _).mp q)), if_neg (fun q => h2 ((zCmp_gt0 _ _).mp q)), if_pos (by omega)]
