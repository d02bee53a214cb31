/-! the reference's codes: digits to the base 3, the last egg's the lowest -/
def ld (T : Nat → Int) : Nat → Nat → Nat → Int
  | 0, _, _ => 0
  | j + 1, a, p => ld T j (a / 3) p + (if a % 3 = p then T j else 0)
def va3 (T : Nat → Int) (R : Nat) : Nat → Nat → Bool
  | 0, _ => true
  | j + 1, a => va3 T R j (a / 3) && decide (a % 3 < R) && (decide (T j ≠ 0) || decide (a % 3 = 0))
def dg3 : Nat → Nat → Nat → Int
  | 0, _, _ => 0
  | j + 1, a, e => if e = j then ((a % 3 : Nat) : Int) else dg3 j (a / 3) e
def up3 (T : Nat → Int) (R n : Nat) (s : Int × (Nat → Int)) (c : Nat) : Int × (Nat → Int) := if va3 T R n c = true then leafU s (ld T n c) (dg3 n c) else s
/-- codes lo .. lo + len - 1 -/
def RG3 (T : Nat → Int) (R n lo : Nat) (s : Int × (Nat → Int)) (len : Nat) : Int × (Nat → Int) := fd (fun s i => up3 T R n s (lo + i)) len s
theorem fd_succ {S : Type} (f : S → Nat → S) (p : Nat) (s : S) : fd f (p + 1) s = f (fd f p s) p := rfl
theorem fd_add {S : Type} (f : S → Nat → S) (a : Nat) (s : S) : ∀ b, fd f (a + b) s = fd (fun s i => f s (a + i)) b (fd f a s)
  | 0 => rfl
  | b + 1 => by
    show f (fd f (a + b) s) (a + b) = f (fd (fun s i => f s (a + i)) b (fd f a s)) (a + b)
    rw [fd_add f a s b]
theorem fd_ext {S : Type} {f g : S → Nat → S} : ∀ {n : Nat} {s : S}, (∀ s i, i < n → f s i = g s i) → fd f n s = fd g n s
  | 0, _, _ => rfl
  | n + 1, s, h => by rw [fd, fd, fd_ext (fun s i hi => h s i (by omega)), h _ n (by omega)]
theorem RG_add (T : Nat → Int) (R n lo a b : Nat) (s : Int × (Nat → Int)) : RG3 T R n lo s (a + b) = RG3 T R n (lo + a) (RG3 T R n lo s a) b := by
  unfold RG3
  rw [fd_add]
  exact fd_ext (fun s i _ => by rw [Nat.add_assoc])
theorem va3_bad {T : Nat → Int} {R : Nat} : ∀ (k j a i : Nat), va3 T R j a = false → i < 3 ^ k → va3 T R (j + k) (a * 3 ^ k + i) = false
  | 0, j, a, i, h, hi => by
    have : i = 0 := by simpa using hi
    subst this
    simpa using h
  | k + 1, j, a, i, h, hi => by
    have e : (a * 3 ^ (k + 1) + i) / 3 = a * 3 ^ k + i / 3 := by
      rw [Nat.pow_succ, ← Nat.mul_assoc, Nat.mul_comm _ 3, Nat.mul_add_div (by decide)]
    have := va3_bad k j a (i / 3) h (by rw [Nat.pow_succ] at hi; omega)
    show (va3 T R (j + k) ((a * 3 ^ (k + 1) + i) / 3) && _ && _) = false
    rw [e, this]
    rfl
theorem RG_bad {T : Nat → Int} {R : Nat} (k j a : Nat) (s : Int × (Nat → Int)) (h : va3 T R j a = false) : RG3 T R (j + k) (a * 3 ^ k) s (3 ^ k) = s := by
  unfold RG3
  refine fd_id (fun i hi => ?_)
  unfold up3
  rw [va3_bad k j a i h hi]
  rfl
theorem ld_succ (T : Nat → Int) (j a d : Nat) (hd : d < 3) : ld T (j + 1) (a * 3 + d) = fun p => ld T j a p + (if d = p then T j else 0) := by
  funext p
  rw [ld, show (a * 3 + d) / 3 = a from by omega, show (a * 3 + d) % 3 = d from by omega]
theorem dg_succ (j a d : Nat) (hd : d < 3) : dg3 (j + 1) (a * 3 + d) = va_up (dg3 j a) j (d : Int) := by
  funext e
  rw [dg3, show (a * 3 + d) / 3 = a from by omega, show (a * 3 + d) % 3 = d from by omega]
  rfl
theorem va_succ (T : Nat → Int) (R j a d : Nat) (hd : d < 3) : va3 T R (j + 1) (a * 3 + d) = (va3 T R j a && decide (d < R) && (decide (T j ≠ 0) || decide (d = 0))) := by
  rw [va3, show (a * 3 + d) / 3 = a from by omega, show (a * 3 + d) % 3 = d from by omega]
theorem RG_Gs {T : Nat → Int} {R : Nat} (hR1 : 1 ≤ R) (hR : R ≤ 3) : ∀ (k j a : Nat) (s : Int × (Nat → Int)), va3 T R j a = true → RG3 T R (j + k) (a * 3 ^ k) s (3 ^ k) = Gs T R k j (ld T j a) (dg3 j a) s := by
  intro k
  induction k with
  | zero =>
    intro j a s h
    show up3 T R j s (a * 1 + 0) = leafU s (ld T j a) (dg3 j a)
    unfold up3
    rw [Nat.mul_one, Nat.add_zero, if_pos h]
  | succ k ih =>
    intro j a s h
    have zz : ∀ d, (fun p => ld T j a p + (if d = p then T j else 0)) = va_up (ld T j a) d (ld T j a d + T j) := fun d => by
      funext p
      rw [vu]
      by_cases hpd : p = d
      · rw [if_pos hpd, if_pos hpd.symm, hpd]
      · rw [if_neg hpd, if_neg (fun q => hpd q.symm), Int.add_zero]
    have e1 : ∀ d, a * 3 ^ (k + 1) + d * 3 ^ k = (a * 3 + d) * 3 ^ k := fun d => by rw [Nat.pow_succ, Nat.add_mul, Nat.mul_assoc, Nat.mul_comm 3]
    have e2 : j + (k + 1) = (j + 1) + k := by omega
    have pt : ∀ d, d < 3 → d < R → (T j ≠ 0 ∨ d = 0) → ∀ s, RG3 T R (j + (k + 1)) (a * 3 ^ (k + 1) + d * 3 ^ k) s (3 ^ k) = Gs T R k (j + 1) (va_up (ld T j a) d (ld T j a d + T j)) (va_up (dg3 j a) j (d : Int)) s := by
      intro d hd h1 h2 s
      have e3 := va_succ T R j a d hd
      rw [h] at e3
      rw [e1, e2, ih (j + 1) (a * 3 + d) s (by rw [e3]; simp; exact ⟨h1, h2⟩), ld_succ T j a d hd, dg_succ j a d hd, zz]
    have pf : ∀ d, d < 3 → ¬ (d < R ∧ (T j ≠ 0 ∨ d = 0)) → ∀ s, RG3 T R (j + (k + 1)) (a * 3 ^ (k + 1) + d * 3 ^ k) s (3 ^ k) = s := by
      intro d hd h1 s
      have e3 := va_succ T R j a d hd
      rw [h] at e3
      rw [e1, e2]
      refine RG_bad k (j + 1) (a * 3 + d) s ?_
      rw [e3, Bool.true_and]
      refine Bool.eq_false_iff.mpr (fun q => h1 ?_)
      simp at q
      exact q
    have split3 : RG3 T R (j + (k + 1)) (a * 3 ^ (k + 1)) s (3 ^ (k + 1)) = RG3 T R (j + (k + 1)) (a * 3 ^ (k + 1) + 2 * 3 ^ k) (RG3 T R (j + (k + 1)) (a * 3 ^ (k + 1) + 1 * 3 ^ k) (RG3 T R (j + (k + 1)) (a * 3 ^ (k + 1) + 0 * 3 ^ k) s (3 ^ k)) (3 ^ k)) (3 ^ k) := by
      rw [show 3 ^ (k + 1) = 3 ^ k + 3 ^ k + 3 ^ k from by rw [Nat.pow_succ]; omega, RG_add, RG_add]
      congr 1
      · rw [Nat.add_assoc]; congr 1; omega
      · congr 1
        · congr 1; omega
        · congr 1; omega
    rw [split3, Gs]
    by_cases h0 : T j = 0
    · rw [if_pos h0, pt 0 (by decide) (by omega) (Or.inr rfl), pf 1 (by decide) (by omega), pf 2 (by decide) (by omega), h0, Int.add_zero]
      congr 1
      funext p
      rw [vu]
      by_cases hp : p = 0
      · rw [if_pos hp, hp]
      · rw [if_neg hp]
    · rw [if_neg h0]
      rcases (show R = 1 ∨ R = 2 ∨ R = 3 by omega) with hr | hr | hr
      · rw [pt 0 (by decide) (by omega) (Or.inr rfl), pf 1 (by decide) (by omega), pf 2 (by decide) (by omega)]
        subst hr
        rfl
      · rw [pt 0 (by decide) (by omega) (Or.inr rfl), pt 1 (by decide) (by omega) (Or.inl h0), pf 2 (by decide) (by omega)]
        subst hr
        rfl
      · rw [pt 0 (by decide) (by omega) (Or.inr rfl), pt 1 (by decide) (by omega) (Or.inl h0), pt 2 (by decide) (by omega) (Or.inl h0)]
        subst hr
        rfl
/-- where the search begins doesn't matter, if it is above all that can come -/
theorem Gs_start {T : Nat → Int} {R : Nat} (hT : ∀ j, 0 ≤ T j ∧ T j ≤ 30) (hR1 : 1 ≤ R) (hR : R ≤ 3) : ∀ (k j : Nat) (l w : Nat → Int) (s s' : Int × (Nat → Int)), (∀ p, p < 3 → l p ≤ 30 * j) → 30 * ((j + k : Nat) : Int) < s.1 → 30 * ((j + k : Nat) : Int) < s'.1 → Gs T R k j l w s = Gs T R k j l w s' ∧ (Gs T R k j l w s).1 ≤ 30 * ((j + k : Nat) : Int) := by
  intro k
  induction k with
  | zero =>
    intro j l w s s' hl h1 h2
    have : mx3 l ≤ 30 * (j : Int) := by
      have := hl 0 (by decide)
      have := hl 1 (by decide)
      have := hl 2 (by decide)
      unfold mx3
      omega
    have h1 : 30 * (j : Int) < s.1 := h1
    have h2 : 30 * (j : Int) < s'.1 := h2
    rw [Gs, Gs, leafU, leafU, if_pos (by omega), if_pos (by omega)]
    exact ⟨rfl, this⟩
  | succ k ih =>
    intro j l w s s' hl h1 h2
    have e : j + (k + 1) = (j + 1) + k := by omega
    have hTj := hT j
    rw [Gs, Gs, e]
    rw [e] at h1 h2
    by_cases h0 : T j = 0
    · rw [if_pos h0, if_pos h0]
      exact ih (j + 1) l _ s s' (fun p hp => by have := hl p hp; omega) h1 h2
    · rw [if_neg h0, if_neg h0]
      have hl' : ∀ q, ∀ p, p < 3 → va_up l q (l q + T j) p ≤ 30 * ((j + 1 : Nat) : Int) := fun q p hp => by
        have := hl p hp
        rw [vu]
        split
        · rename_i hpq
          subst hpq
          omega
        · omega
      have key : ∀ r, fd (fun s p => Gs T R k (j + 1) (va_up l p (l p + T j)) (va_up w j (p : Int)) s) (r + 1) s = fd (fun s p => Gs T R k (j + 1) (va_up l p (l p + T j)) (va_up w j (p : Int)) s) (r + 1) s' ∧ (fd (fun s p => Gs T R k (j + 1) (va_up l p (l p + T j)) (va_up w j (p : Int)) s) (r + 1) s).1 ≤ 30 * (((j + 1) + k : Nat) : Int) := by
        intro r
        induction r with
        | zero =>
          show Gs T R k (j + 1) (va_up l 0 (l 0 + T j)) (va_up w j ((0 : Nat) : Int)) s = Gs T R k (j + 1) (va_up l 0 (l 0 + T j)) (va_up w j ((0 : Nat) : Int)) s' ∧ _
          exact ih (j + 1) _ _ s s' (hl' 0) h1 h2
        | succ r ih2 =>
          rw [fd_succ _ (r + 1) s, fd_succ _ (r + 1) s', ← ih2.1]
          refine ⟨rfl, ?_⟩
          have hneg : ∀ (k j : Nat) (l w : Nat → Int) (s : Int × (Nat → Int)), (Gs T R k j l w s).1 ≤ s.1 := by
            intro k
            induction k with
            | zero =>
              intro j l w s
              rw [Gs, leafU]
              split
              · dsimp only; omega
              · exact Int.le_refl _
            | succ k ih3 =>
              intro j l w s
              rw [Gs]
              split
              · exact ih3 _ _ _ _
              · have : ∀ r, (fd (fun s p => Gs T R k (j + 1) (va_up l p (l p + T j)) (va_up w j (p : Int)) s) r s).1 ≤ s.1 := by
                  intro r
                  induction r with
                  | zero => exact Int.le_refl _
                  | succ r ih4 => rw [fd]; exact Int.le_trans (ih3 _ _ _ _) ih4
                exact this R
          exact Int.le_trans (hneg _ _ _ _ _) ih2.2
      obtain ⟨r, rfl⟩ : ∃ r, R = r + 1 := ⟨R - 1, by omega⟩
      exact key r
