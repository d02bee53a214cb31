theorem zAnd_rg (a b : Int) : rg (zAnd a b) := rg_of _
theorem bit_n (x e : Nat) (hx : x < 2147483648) (he : e < 32) : zAnd (zShr (x : Int) (e : Int)) 1 = ((x / 2 ^ e % 2 : Nat) : Int) := by
  rw [zShr_n x e hx he, zAnd1 _ (Nat.lt_of_le_of_lt (Nat.div_le_self _ _) hx)]
theorem has_m (x e : Nat) (hx : x < 2147483648) (he : e < 32) : pX11_has (x : Int) (e : Int) = some (if x / 2 ^ e % 2 = 1 then 1 else 0) := by
  unfold pX11_has pX11_has_0
  rw [bit_n x e hx he, gd_t (by omega)]
  by_cases h : x / 2 ^ e % 2 = 1
  · rw [if_pos h, if_pos (by omega)]
  · rw [if_neg h, if_neg (by omega)]
theorem sub_le : ∀ w, w < 128 → ∀ x, x < 128 → zAnd ((x : Nat) : Int) (zXor ((w : Nat) : Int) (-1)) = 0 → x ≤ w := by decide +kernel
def pc (x : Nat) : Nat := cnt (fun k => x / 2 ^ k % 2 == 1) 7
def rsm (v : Nat → Int) (x : Nat) : Nat → Int
  | 0 => 0
  | k + 1 => rsm v x k + (if x / 2 ^ k % 2 = 1 then v k else 0)
theorem rsm_b {v : Nat → Int} {x : Nat} : ∀ {k : Nat}, (∀ e, e < k → 0 ≤ v e ∧ v e ≤ 15) → 0 ≤ rsm v x k ∧ rsm v x k ≤ 15 * k
  | 0, _ => by simp [rsm]
  | k + 1, h => by
    have ih := rsm_b (x := x) (k := k) (fun e he => h e (by omega))
    have := h k (by omega)
    rw [rsm]
    split <;> omega
theorem rsm_out {v : Nat → Int} {x n : Nat} (hx : x < 2 ^ n) : ∀ {k : Nat}, n ≤ k → rsm v x k = rsm v x n
  | 0, h => by obtain rfl : n = 0 := by omega
               rfl
  | k + 1, h => by
    by_cases e : n = k + 1
    · rw [e]
    · have h2 : 2 ^ n ≤ 2 ^ k := Nat.pow_le_pow_right (by decide) (by omega)
      rw [rsm, rsm_out hx (by omega), Nat.div_eq_of_lt (by omega), if_neg (by decide), Int.add_zero]
theorem bits_m {x : Nat} (hx : x < 128) : pX11_bits (x : Int) = some ((pc x : Nat) : Int) := by
  have := lp_all (fun m i (b : Int) => pX11_bits_4 m (x : Int) b i) (fun k => ((cnt (fun k => x / 2 ^ k % 2 == 1) k : Nat) : Int)) 7 (by decide) (fun m k hk => by
    rw [pX11_bits_4, gd_t (by omega), if_neg (by omega), bit_n x k (by omega) (by omega), cast1]
    congr 1
    rw [cnt]
    by_cases h : x / 2 ^ k % 2 = 1
    · rw [if_pos (by rw [h]; rfl), h]; rfl
    · rw [if_neg (by simp [h]), show x / 2 ^ k % 2 = 0 from by omega]; simp)
  refine Eq.trans this ?_
  rw [pX11_bits_4, gd_t (by omega), if_pos (by omega)]
  rfl
section
variable {σ μ : St} {n : Nat} {a z st bo : Nat → Int}
theorem minutesOf_m (hV : Vw n a z st bo) (h : VM μ n a z st bo) {x : Nat} (hx : x < 128) : pX11_minutesOf μ (x : Int) = some (rsm (fun e => rv (a e) (z e) (bo e)) x n) := by
  have h7 := hV.1
  have := lp_all (fun m i (b : Int) => pX11_minutesOf_4 μ m (x : Int) b i) (fun k => rsm (fun e => rv (a e) (z e) (bo e)) x k) n (by omega) (fun m k hk => by
    rw [pX11_minutesOf_4, h.1, gd_t (by omega), if_neg (by omega), has_m x k (by omega) (by omega), Option.bind_some]
    unfold pX11_minutesOf_30
    rw [rsm]
    by_cases hb : x / 2 ^ k % 2 = 1
    · rw [if_pos hb, gd_t (by decide), if_neg (by decide), reign_m hV h hk, Option.bind_some, cast1, if_pos hb]
    · rw [if_neg hb, gd_t (by decide), if_pos rfl, cast1, if_neg hb])
  refine Eq.trans this ?_
  rw [pX11_minutesOf_4, h.1, gd_t (by omega), if_pos (by omega)]
/-- the best set among those below k -/
def dstep (w : Nat) (v : Nat → Int) (n : Nat) (so : Int) (b x : Nat) : Nat := if zAnd ((x : Nat) : Int) (zXor ((w : Nat) : Int) (-1)) = 0 ∧ 2 * rsm v x n ≤ so ∧ (pc b < pc x ∨ (pc x = pc b ∧ rsm v b n < rsm v x n)) then x else b
def dyn (w : Nat) (v : Nat → Int) (n : Nat) (so : Int) : Nat → Nat
  | 0 => 0
  | k + 1 => dstep w v n so (dyn w v n so k) k
theorem dyn_lt {w : Nat} {v : Nat → Int} {n : Nat} {so : Int} : ∀ k, dyn w v n so k ≤ k
  | 0 => Nat.le_refl 0
  | k + 1 => by
    have := dyn_lt (w := w) (v := v) (n := n) (so := so) k
    rw [dyn, dstep]
    split <;> omega
theorem dyn_w {w : Nat} (hw : w < 128) {v : Nat → Int} {n : Nat} {so : Int} : ∀ k, k ≤ 128 → dyn w v n so k ≤ w
  | 0, _ => Nat.zero_le _
  | k + 1, hk => by
    have := dyn_w hw (v := v) (n := n) (so := so) k (by omega)
    rw [dyn, dstep]
    split
    · rename_i h; exact sub_le w hw k (by omega) h.1
    · exact this
theorem dyn_out {w : Nat} {v : Nat → Int} {n : Nat} {so : Int} (hn : n ≤ 7) (hw : w < 2 ^ n) : ∀ k, 2 ^ n ≤ k → k ≤ 128 → dyn w v n so k = dyn w v n so (2 ^ n)
  | 0, h, _ => by have : 0 < 2 ^ n := Nat.pow_pos (by decide)
                  omega
  | k + 1, h, h2 => by
    have h3 : 2 ^ n ≤ 2 ^ 7 := Nat.pow_le_pow_right (by decide) hn
    by_cases e : 2 ^ n = k + 1
    · rw [e]
    · rw [dyn, dstep, if_neg (fun q => by have := sub_le w (by omega) k (by omega) q.1; omega)]
      exact dyn_out hn hw k (by omega) (by omega)
def S3 (σ : St) (x y w : Int) : St := sI (sI (sI σ 28 x) 29 y) 30 w
theorem S3_S3 (σ : St) (x y w x' y' w' : Int) : S3 (S3 σ x y w) x' y' w' = S3 σ x' y' w' := by
  have : ∀ j, (S3 (S3 σ x y w) x' y' w').1 j = (S3 σ x' y' w').1 j := fun j => by
    show (if j = 30 then w' else if j = 29 then y' else if j = 28 then x' else if j = 30 then w else if j = 29 then y else if j = 28 then x else σ.1 j) = (if j = 30 then w' else if j = 29 then y' else if j = 28 then x' else σ.1 j)
    by_cases h1 : j = 30 <;> by_cases h2 : j = 29 <;> by_cases h3 : j = 28 <;> simp [h1, h2, h3]
  exact Prod.ext (funext this) rfl
theorem VE.S3 (h : VE σ n a z st bo) (x y w : Int) : VE (S3 σ x y w) n a z st bo := h
theorem weigh_e (hV : Vw n a z st bo) (h : VE σ n a z st bo) (hso : 0 ≤ σ.1 18 ∧ σ.1 18 ≤ 999) {b x : Nat} (hb : b < 128) (hx : x < 2 ^ n) : pX7_weigh (S3 σ ((pc b : Nat) : Int) (rsm (fun e => rv (a e) (z e) (bo e)) b n) (b : Int)) (x : Int) = some (if 2 * rsm (fun e => rv (a e) (z e) (bo e)) x n ≤ σ.1 18 ∧ (pc b < pc x ∨ (pc x = pc b ∧ rsm (fun e => rv (a e) (z e) (bo e)) b n < rsm (fun e => rv (a e) (z e) (bo e)) x n)) then S3 σ ((pc x : Nat) : Int) (rsm (fun e => rv (a e) (z e) (bo e)) x n) (x : Int) else S3 σ ((pc b : Nat) : Int) (rsm (fun e => rv (a e) (z e) (bo e)) b n) (b : Int)) := by
  have h7 := hV.1
  have h27 : 2 ^ n ≤ 2 ^ 7 := Nat.pow_le_pow_right (by decide) h7
  have hpx : pc x ≤ 7 := cnt_le _ 7
  have hpb : pc b ≤ 7 := cnt_le _ 7
  have hv : ∀ e, e < n → 0 ≤ rv (a e) (z e) (bo e) ∧ rv (a e) (z e) (bo e) ≤ 15 := fun e he => by have := rv_b (a := a e) (b := bo e) (hV.2 e he).2.1; omega
  have hrx := rsm_b (x := x) hv
  have hrb := rsm_b (x := b) hv
  have hE := VE.S3 h ((pc b : Nat) : Int) (rsm (fun e => rv (a e) (z e) (bo e)) b n) (b : Int)
  have e28 : (S3 σ ((pc b : Nat) : Int) (rsm (fun e => rv (a e) (z e) (bo e)) b n) (b : Int)).1 28 = ((pc b : Nat) : Int) := rfl
  have e29 : (S3 σ ((pc b : Nat) : Int) (rsm (fun e => rv (a e) (z e) (bo e)) b n) (b : Int)).1 29 = rsm (fun e => rv (a e) (z e) (bo e)) b n := rfl
  have e18 : (S3 σ ((pc b : Nat) : Int) (rsm (fun e => rv (a e) (z e) (bo e)) b n) (b : Int)).1 18 = σ.1 18 := rfl
  have eS : ∀ p q r : Int, sI (sI (sI (S3 σ ((pc b : Nat) : Int) (rsm (fun e => rv (a e) (z e) (bo e)) b n) (b : Int)) 28 p) 29 q) 30 r = S3 σ p q r := fun p q r => S3_S3 σ _ _ _ p q r
  generalize hSS : S3 σ ((pc b : Nat) : Int) (rsm (fun e => rv (a e) (z e) (bo e)) b n) (b : Int) = S at hE e28 e29 e18 eS ⊢
  have lp := lp_all (fun m i (r : Int) => pX7_weigh_11 m S (x : Int) ((pc x : Nat) : Int) r i) (fun k => rsm (fun e => rv (a e) (z e) (bo e)) x k) 7 (by decide) (fun m k hk => by
    rw [pX7_weigh_11, gd_t (by omega), if_neg (by omega), bit_n x k (by omega) (by omega), gd_t (by omega)]
    unfold pX7_weigh_40
    rw [rsm]
    by_cases hbk : x / 2 ^ k % 2 = 1
    · have hkn : k < n := by
        rcases Nat.lt_or_ge k n with q | q
        · exact q
        · have h2 : 2 ^ n ≤ 2 ^ k := Nat.pow_le_pow_right (by decide) q
          rw [Nat.div_eq_of_lt (by omega)] at hbk
          omega
      rw [if_pos (by omega), reignOf_e hV hE hkn, Option.bind_some, cast1, if_pos hbk]
    · rw [if_neg (by omega), cast1, if_neg hbk])
  unfold pX7_weigh pX7_weigh_0
  rw [bitCount_7 x (by omega), Option.bind_some]
  refine Eq.trans lp ?_
  rw [rsm_out hx h7, pX7_weigh_11, gd_t (by decide), if_pos (by decide), e18, gd_t (by omega)]
  unfold pX7_weigh_65 pX7_weigh_97
  rw [e28, e29]
  by_cases h1 : 2 * rsm (fun e => rv (a e) (z e) (bo e)) x n ≤ σ.1 18
  · rw [if_neg (by omega)]
    simp (disch := omega) only [gd_t, if_neg]
    by_cases h2 : pc b < pc x
    · rw [if_pos (by omega), if_pos ⟨h1, Or.inl h2⟩, nm_v, nm_v, nm_v, eS]
    · rw [if_neg (by omega)]
      by_cases h3 : pc x = pc b
      · rw [if_pos (by omega)]
        by_cases h4 : rsm (fun e => rv (a e) (z e) (bo e)) x n ≤ rsm (fun e => rv (a e) (z e) (bo e)) b n
        · rw [if_pos h4, if_neg (by omega)]
        · rw [if_neg h4, if_pos ⟨h1, Or.inr ⟨h3, by omega⟩⟩, nm_v, nm_v, nm_v, eS]
      · rw [if_neg (by omega), if_neg (by omega)]
  · rw [if_pos (show σ.1 18 < 2 * rsm (fun e => rv (a e) (z e) (bo e)) x n by omega)]
    simp (disch := omega) only [gd_t, ite_true]
    rw [if_neg (fun q => h1 q.1)]
theorem d68_0 (hV : Vw n a z st bo) (h : VM μ n a z st bo) (K : Int → Int → Int → Option Int) (w t : Int) {b x : Nat} (hb : b < 128) (hx : x < 128) : pX11_dynastySet_68 K μ w (b : Int) (x : Int) 0 t = K w (b : Int) ((x : Int) + 1) := by
  have h7 := hV.1
  have hv : ∀ e, e < n → 0 ≤ rv (a e) (z e) (bo e) ∧ rv (a e) (z e) (bo e) ≤ 15 := fun e he => by have := rv_b (a := a e) (b := bo e) (hV.2 e he).2.1; omega
  have hrx := rsm_b (x := x) hv
  have hrb := rsm_b (x := b) hv
  have hpx : pc x ≤ 7 := cnt_le _ 7
  have hpb : pc b ≤ 7 := cnt_le _ 7
  have e99 : ∀ u, pX11_dynastySet_99 K μ w (b : Int) (x : Int) 0 t u = K w (b : Int) ((x : Int) + 1) := fun u => by
    unfold pX11_dynastySet_99 pX11_dynastySet_120 pX11_dynastySet_121
    rw [gd_t (by decide), if_pos rfl]
  unfold pX11_dynastySet_68 pX11_dynastySet_98
  rw [e99, e99, minutesOf_m hV h hx, minutesOf_m hV h hb, bits_m hx, bits_m hb, Option.bind_some, Option.bind_some, gd_t (by omega), Option.bind_some, Option.bind_some, gd_t (by omega), ite_self, ite_self]
theorem d68_1 (hV : Vw n a z st bo) (h : VM μ n a z st bo) (K : Int → Int → Int → Option Int) (w t : Int) (ht : t = 0 ∨ t = 1) {b x : Nat} (hb : b < 128) (hx : x < 128) : pX11_dynastySet_68 K μ w (b : Int) (x : Int) 1 t = if t = 1 ∨ (pc x = pc b ∧ rsm (fun e => rv (a e) (z e) (bo e)) b n < rsm (fun e => rv (a e) (z e) (bo e)) x n) then K w (x : Int) ((x : Int) + 1) else K w (b : Int) ((x : Int) + 1) := by
  have h7 := hV.1
  have hv : ∀ e, e < n → 0 ≤ rv (a e) (z e) (bo e) ∧ rv (a e) (z e) (bo e) ≤ 15 := fun e he => by have := rv_b (a := a e) (b := bo e) (hV.2 e he).2.1; omega
  have hrx := rsm_b (x := x) hv
  have hrb := rsm_b (x := b) hv
  have hpx : pc x ≤ 7 := cnt_le _ 7
  have hpb : pc b ≤ 7 := cnt_le _ 7
  have e99 : ∀ u : Int, (u = 0 ∨ u = 1) → pX11_dynastySet_99 K μ w (b : Int) (x : Int) 1 t u = if t = 1 ∨ u = 1 then K w (x : Int) ((x : Int) + 1) else K w (b : Int) ((x : Int) + 1) := fun u hu => by
    unfold pX11_dynastySet_99 pX11_dynastySet_120 pX11_dynastySet_121 pX11_dynastySet_116 pX11_dynastySet_121
    rcases ht with rfl | rfl <;> rcases hu with rfl | rfl <;> (rw [gd_t (show rg (1 : Int) by decide), if_neg (show ¬ (1 : Int) = 0 by decide)]; simp [gd_t rg0, gd_t (show rg (1 : Int) by decide)])
  unfold pX11_dynastySet_68 pX11_dynastySet_98
  rw [e99 0 (Or.inl rfl), e99 1 (Or.inr rfl), minutesOf_m hV h hx, minutesOf_m hV h hb, bits_m hx, bits_m hb, Option.bind_some, Option.bind_some, gd_t (by omega), Option.bind_some, Option.bind_some, gd_t (by omega)]
  by_cases h3 : pc x = pc b
  · rw [if_pos (show ((pc x : Nat) : Int) = ((pc b : Nat) : Int) by omega)]
    by_cases h4 : rsm (fun e => rv (a e) (z e) (bo e)) x n ≤ rsm (fun e => rv (a e) (z e) (bo e)) b n
    · rw [if_pos h4]
      by_cases h1 : t = 1
      · rw [if_pos (Or.inl h1), if_pos (Or.inl h1)]
      · rw [if_neg (by omega), if_neg (by omega)]
    · rw [if_neg h4, if_pos (Or.inr rfl), if_pos (Or.inr ⟨h3, by omega⟩)]
  · rw [if_neg (show ¬ ((pc x : Nat) : Int) = ((pc b : Nat) : Int) by omega)]
    by_cases h1 : t = 1
    · rw [if_pos (Or.inl h1), if_pos (Or.inl h1)]
    · rw [if_neg (by omega), if_neg (by omega)]
theorem d50_e (hV : Vw n a z st bo) (h : VM μ n a z st bo) (K : Int → Int → Int → Option Int) (w : Int) {b x : Nat} (hb : b < 128) (hx : x < 128) : pX11_dynastySet_50 K μ w (b : Int) (x : Int) 0 = K w (b : Int) ((x : Int) + 1) ∧ pX11_dynastySet_50 K μ w (b : Int) (x : Int) 1 = if pc b < pc x ∨ (pc x = pc b ∧ rsm (fun e => rv (a e) (z e) (bo e)) b n < rsm (fun e => rv (a e) (z e) (bo e)) x n) then K w (x : Int) ((x : Int) + 1) else K w (b : Int) ((x : Int) + 1) := by
  have hpx : pc x ≤ 7 := cnt_le _ 7
  have hpb : pc b ≤ 7 := cnt_le _ 7
  unfold pX11_dynastySet_50
  rw [d68_0 hV h K w 0 hb hx, d68_0 hV h K w 1 hb hx, d68_1 hV h K w 0 (Or.inl rfl) hb hx, d68_1 hV h K w 1 (Or.inr rfl) hb hx, bits_m hx, bits_m hb, Option.bind_some, Option.bind_some, Option.bind_some, Option.bind_some, gd_t (by omega), gd_t (by omega), ite_self]
  refine ⟨rfl, ?_⟩
  rw [if_pos (show (1 : Int) = 1 ∨ _ from Or.inl rfl)]
  by_cases h2 : pc b < pc x
  · rw [if_neg (show ¬ ((pc x : Nat) : Int) ≤ ((pc b : Nat) : Int) by omega), if_pos (Or.inl h2)]
  · rw [if_pos (show ((pc x : Nat) : Int) ≤ ((pc b : Nat) : Int) by omega)]
    by_cases h4 : pc x = pc b ∧ rsm (fun e => rv (a e) (z e) (bo e)) b n < rsm (fun e => rv (a e) (z e) (bo e)) x n
    · rw [if_pos (Or.inr h4), if_pos (Or.inr h4)]
    · rw [if_neg (fun q => q.elim (fun q => absurd q (by decide)) h4), if_neg (fun q => q.elim h2 h4)]
theorem try_e (hV : Vw n a z st bo) (h : VE σ n a z st bo) (hso : 0 ≤ σ.1 18 ∧ σ.1 18 ≤ 999) {w : Nat} (hw : w < 2 ^ n) : pX7_tryAll_23 FU (S3 σ 0 0 0) (w : Int) 1 = some (S3 σ ((pc (dyn w (fun e => rv (a e) (z e) (bo e)) n (σ.1 18) (2 ^ n)) : Nat) : Int) (rsm (fun e => rv (a e) (z e) (bo e)) (dyn w (fun e => rv (a e) (z e) (bo e)) n (σ.1 18) (2 ^ n)) n) ((dyn w (fun e => rv (a e) (z e) (bo e)) n (σ.1 18) (2 ^ n) : Nat) : Int)) := by
  have h7 := hV.1
  have h27 : 2 ^ n ≤ 2 ^ 7 := Nat.pow_le_pow_right (by decide) h7
  have hd0 : dyn w (fun e => rv (a e) (z e) (bo e)) n (σ.1 18) 1 = 0 := by
    have := dyn_lt (w := w) (v := fun e => rv (a e) (z e) (bo e)) (n := n) (so := σ.1 18) 0
    rw [dyn, dstep]
    split
    · rfl
    · omega
  have r0 : ∀ k, rsm (fun e => rv (a e) (z e) (bo e)) 0 k = 0 := fun k => by
    have : ∀ k, rsm (fun e => rv (a e) (z e) (bo e)) 0 k = 0 := fun k => by
      induction k with
      | zero => rfl
      | succ k ih => rw [rsm, ih, Nat.zero_div, if_neg (by decide)]; rfl
    exact this k
  obtain ⟨τ, m, hI, e⟩ := lp_exA (fun m i (τ : St) => pX7_tryAll_23 m τ (w : Int) i) (fun k τ => τ = S3 σ ((pc (dyn w (fun e => rv (a e) (z e) (bo e)) n (σ.1 18) k) : Nat) : Int) (rsm (fun e => rv (a e) (z e) (bo e)) (dyn w (fun e => rv (a e) (z e) (bo e)) n (σ.1 18) k) n) ((dyn w (fun e => rv (a e) (z e) (bo e)) n (σ.1 18) k : Nat) : Int)) 1 128 (by decide) (by decide) (S3 σ 0 0 0) (by rw [hd0, r0]; rfl) (fun m k τ hk1 hk hI => by
    rw [pX7_tryAll_23, gd_t (by omega), if_neg (by omega), gd_t (zAnd_rg _ _)]
    unfold pX7_tryAll_44
    have hlt := dyn_lt (w := w) (v := fun e => rv (a e) (z e) (bo e)) (n := n) (so := σ.1 18) k
    by_cases hs : zAnd ((k : Nat) : Int) (zXor ((w : Nat) : Int) (-1)) = 0
    · have := sub_le w (by omega) k hk hs
      rw [if_pos hs, hI, weigh_e hV h hso (by omega) (by omega), Option.bind_some, cast1]
      refine ⟨_, ?_, rfl⟩
      rw [dyn, dstep]
      by_cases hc : 2 * rsm (fun e => rv (a e) (z e) (bo e)) k n ≤ σ.1 18 ∧ (pc (dyn w (fun e => rv (a e) (z e) (bo e)) n (σ.1 18) k) < pc k ∨ (pc k = pc (dyn w (fun e => rv (a e) (z e) (bo e)) n (σ.1 18) k) ∧ rsm (fun e => rv (a e) (z e) (bo e)) (dyn w (fun e => rv (a e) (z e) (bo e)) n (σ.1 18) k) n < rsm (fun e => rv (a e) (z e) (bo e)) k n))
      · rw [if_pos hc, if_pos ⟨hs, hc⟩]
      · rw [if_neg hc, if_neg (fun q => hc q.2)]
    · rw [if_neg hs, cast1]
      refine ⟨τ, ?_, rfl⟩
      rw [hI, dyn, dstep, if_neg (fun q => hs q.1)])
  refine Eq.trans e ?_
  rw [pX7_tryAll_23, gd_t (by decide), if_pos (by decide), hI, dyn_out h7 hw 128 (by omega) (Nat.le_refl _)]
theorem dset_m (hV : Vw n a z st bo) (h : VM μ n a z st bo) (hso : 0 ≤ μ.2 5 14 ∧ μ.2 5 14 ≤ 999) {w : Nat} (hw : w < 2 ^ n) : pX11_dynastySet_10 μ FU (w : Int) 0 0 = some ((dyn w (fun e => rv (a e) (z e) (bo e)) n (μ.2 5 14) (2 ^ n) : Nat) : Int) := by
  have h7 := hV.1
  have h27 : 2 ^ n ≤ 2 ^ 7 := Nat.pow_le_pow_right (by decide) h7
  have hv : ∀ e, e < n → 0 ≤ rv (a e) (z e) (bo e) ∧ rv (a e) (z e) (bo e) ≤ 15 := fun e he => by have := rv_b (a := a e) (b := bo e) (hV.2 e he).2.1; omega
  have hsh : zShl 1 (μ.1 2) = ((2 ^ n : Nat) : Int) := by rw [h.1]; exact zShl1 n (by omega)
  have := lp_all (fun m i (b : Int) => pX11_dynastySet_10 μ m (w : Int) b i) (fun k => ((dyn w (fun e => rv (a e) (z e) (bo e)) n (μ.2 5 14) k : Nat) : Int)) (2 ^ n) (by omega) (fun m k hk => by
    have hlt := dyn_lt (w := w) (v := fun e => rv (a e) (z e) (bo e)) (n := n) (so := μ.2 5 14) k
    rw [dyn, dstep]
    generalize dyn w (fun e => rv (a e) (z e) (bo e)) n (μ.2 5 14) k = b at hlt ⊢
    have hrx := rsm_b (x := k) hv
    have hrb := rsm_b (x := b) hv
    have hpx : pc k ≤ 7 := cnt_le _ 7
    have hpb : pc b ≤ 7 := cnt_le _ 7
    rw [pX11_dynastySet_10, hsh, gd_t (by omega), if_neg (by omega), gd_t (zAnd_rg _ _)]
    unfold pX11_dynastySet_49
    rw [(d50_e hV h _ _ (show b < 128 by omega) (show k < 128 by omega)).1, (d50_e hV h _ _ (show b < 128 by omega) (show k < 128 by omega)).2, minutesOf_m hV h (show k < 128 by omega), Option.bind_some, gd_t (by omega)]
    by_cases hs : zAnd ((k : Nat) : Int) (zXor ((w : Nat) : Int) (-1)) = 0
    · rw [if_pos hs]
      by_cases h1 : 2 * rsm (fun e => rv (a e) (z e) (bo e)) k n ≤ μ.2 5 14
      · rw [if_neg (by omega)]
        by_cases h2 : pc b < pc k ∨ (pc k = pc b ∧ rsm (fun e => rv (a e) (z e) (bo e)) b n < rsm (fun e => rv (a e) (z e) (bo e)) k n)
        · rw [if_pos h2, if_pos ⟨hs, h1, h2⟩]; rfl
        · rw [if_neg h2, if_neg (fun q => h2 q.2.2)]; rfl
      · rw [if_pos (by omega), if_neg (fun q => h1 q.2.1)]
        rfl
    · rw [if_neg hs, if_neg (fun q => hs q.1)]
      rfl)
  refine Eq.trans this ?_
  rw [pX11_dynastySet_10, hsh, gd_t (by omega), if_pos (by omega)]
end
theorem dynasty_q {σ μ : St} (h : Rel σ μ) {x : Int} (hx : rg x) : ∃ r τ, pX10_dynasty σ x = some (r, τ) ∧ pX11_dynasty μ x = some r ∧ Rel τ μ := by
  obtain ⟨n, hV, hE, hM⟩ := h.vw
  have h7 := hV.1
  have h27 : 2 ^ n ≤ 2 ^ 7 := Nat.pow_le_pow_right (by decide) h7
  obtain ⟨hT, hX, hF, hN, hP, hI, hC, hB⟩ := id h
  have n2 := hN.2.1
  have hw := bsn_lt (fun e => decide (σ.2 11 e = 2)) n
  unfold pX10_dynasty pX10_dynasty_0 pX11_dynasty pX11_dynasty_0 pX7_tryAll pX7_tryAll_0 pX11_dynastySet pX11_dynastySet_0
  rw [within_e hx (by decide) (by decide), in_e hx (by decide) (by decide), gd_t hx]
  simp only [nm_v]
  by_cases hc : 0 ≤ x ∧ x ≤ 2
  · have e1 : pX4_setThatIs (sI (sI (sI σ 28 0) 29 0) 30 0) 2 = some ((bsn (fun e => decide (σ.2 11 e = 2)) n : Nat) : Int) := setThat_e hV (VE.S3 hE 0 0 0) (by decide)
    have e2 := try_e hV hE (by omega) hw
    unfold S3 at e2
    have e3 := dset_m hV hM (by omega) hw
    rw [if_pos hc, e1, allThat_m hV hM (by decide), Option.bind_some, Option.bind_some, Option.bind_some, Option.bind_some, e2, e3, ← n2.1, Option.bind_some, Option.bind_some]
    have hd := dyn_w (w := bsn (fun e => decide (σ.2 11 e = 2)) n) (by omega) (v := fun e => rv (σ.2 0 e) (σ.2 1 e) (σ.2 12 e)) (n := n) (so := σ.1 18) (2 ^ n) (by omega)
    generalize dyn (bsn (fun e => decide (σ.2 11 e = 2)) n) (fun e => rv (σ.2 0 e) (σ.2 1 e) (σ.2 12 e)) n (σ.1 18) (2 ^ n) = D at hd ⊢
    rw [bits_m (show D < 128 by omega), minutesOf_m hV hM (show D < 128 by omega)]
    have hR : Rel (sI (sI (sI σ 28 ((pc D : Nat) : Int)) 29 (rsm (fun e => rv (σ.2 0 e) (σ.2 1 e) (σ.2 12 e)) D n)) 30 (D : Int)) μ := ⟨hT, hX, hF, hN, hP, hI, hC, hB⟩
    rcases (show x = 0 ∨ x = 1 ∨ x = 2 by omega) with rfl | rfl | rfl
    · simp (disch := omega) only [gd_t, if_neg, Option.bind_some, ite_true]
      exact ⟨_, _, rfl, rfl, hR⟩
    · simp (disch := omega) only [gd_t, if_neg, Option.bind_some, ite_true]
      exact ⟨_, _, rfl, rfl, hR⟩
    · simp (disch := omega) only [gd_t, if_neg, Option.bind_some]
      exact ⟨_, _, rfl, rfl, hR⟩
  · rw [if_neg hc]
    simp (disch := omega) only [gd_t, Option.bind_some, ite_true]
    exact ⟨_, _, rfl, rfl, h⟩
