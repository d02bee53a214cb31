theorem lp_fwd {α R : Type} (F : Nat → Int → α → Option R) (v : Nat → α) (N : Nat) (step : ∀ m k, k < N → F (m + 1) (k : Int) (v k) = F m ((k + 1 : Nat) : Int) (v (k + 1))) : ∀ d k m, k + d = N → F (m + d + 1) (k : Int) (v k) = F (m + 1) (N : Int) (v N) := by
  intro d
  induction d with
  | zero => intro k m hk; obtain rfl : k = N := by omega
            rfl
  | succ d ih =>
    intro k m hk
    rw [show m + (d + 1) + 1 = (m + d + 1) + 1 from by omega, step _ _ (by omega), ih (k + 1) m (by omega)]
/-- a loop that counts up from 0 to N -/
theorem lp_all {α R : Type} (F : Nat → Int → α → Option R) (v : Nat → α) (N : Nat) (hN : N ≤ 99999) (step : ∀ m k, k < N → F (m + 1) (k : Int) (v k) = F m ((k + 1 : Nat) : Int) (v (k + 1))) : F FU 0 (v 0) = F (99999 - N + 1) (N : Int) (v N) := by
  have := lp_fwd F v N step N 0 (99999 - N) (by omega)
  rw [show 99999 - N + N + 1 = FU from by unfold FU; omega] at this
  exact this
def cnt (P : Nat → Bool) : Nat → Nat
  | 0 => 0
  | k + 1 => if P k then cnt P k + 1 else cnt P k
theorem cnt_le (P : Nat → Bool) : ∀ k, cnt P k ≤ k
  | 0 => Nat.le_refl 0
  | k + 1 => by
    have := cnt_le P k
    show (if P k then cnt P k + 1 else cnt P k) ≤ _
    split <;> omega
theorem cnt_ext {P Q : Nat → Bool} : ∀ {n : Nat}, (∀ k, k < n → P k = Q k) → cnt P n = cnt Q n
  | 0, _ => rfl
  | n + 1, h => by
    show (if P n then _ else _) = (if Q n then _ else _)
    rw [h n (by omega), cnt_ext (n := n) (fun k hk => h k (by omega))]
theorem cnt_out {P : Nat → Bool} {n : Nat} : ∀ {m : Nat}, n ≤ m → (∀ k, n ≤ k → k < m → P k = false) → cnt P m = cnt P n
  | 0, h, _ => by obtain rfl : n = 0 := by omega
                  rfl
  | m + 1, h, hP => by
    by_cases e : n = m + 1
    · rw [e]
    · show (if P m then _ else _) = _
      rw [hP m (by omega) (by omega), if_neg (by decide), cnt_out (m := m) (by omega) (fun k h1 h2 => hP k h1 (by omega))]
theorem bitCount_7 : ∀ x : Nat, x < 128 → pJ6_bitCount_0f7a4 (x : Int) = some ((cnt (fun k => x / 2 ^ k % 2 == 1) 7 : Nat) : Int) := by decide +kernel
theorem bitCount_s (P : Nat → Bool) {n : Nat} (h : n ≤ 7) : pJ6_bitCount_0f7a4 ((bsn P n : Nat) : Int) = some ((cnt P n : Nat) : Int) := by
  have h1 : bsn P n < 2 ^ 7 := Nat.lt_of_lt_of_le (bsn_lt P n) (Nat.pow_le_pow_right (by decide) h)
  rw [bitCount_7 _ h1]
  congr 2
  rw [cnt_out (n := n) h (fun k q1 q2 => by rw [bsn_bit, if_neg (by omega)]; rfl)]
  refine cnt_ext (fun k hk => ?_)
  rw [bsn_bit]
  by_cases hp : P k = true
  · rw [if_pos ⟨hk, hp⟩, hp]; rfl
  · rw [if_neg (fun q => hp q.2)]
    simp at hp
    rw [hp]; rfl
section
variable {σ μ : St} {n : Nat} {a z st bo : Nat → Int}
theorem howMany_e (hV : Vw n a z st bo) (h : VE σ n a z st bo) : pX4_howManyInPan σ = some ((cnt (fun e => decide (st e = 1)) n : Nat) : Int) := by
  unfold pX4_howManyInPan pX4_howManyInPan_0
  rw [setThat_e hV h (by decide), Option.bind_some, bitCount_s _ hV.1, Option.bind_some]
theorem inPan_m (hV : Vw n a z st bo) (h : VM μ n a z st bo) : pX11_inPan μ = some ((cnt (fun e => decide (st e = 1)) n : Nat) : Int) := by
  have h7 := hV.1
  have := lp_all (fun m i (c : Int) => pX11_inPan_4 μ m c i) (fun k => ((cnt (fun e => decide (st e = 1)) k : Nat) : Int)) n (by omega) (fun m k hk => by
    have hb := hV.2 k hk
    have hc := cnt_le (fun e => decide (st e = 1)) k
    rw [pX11_inPan_4, h.1, gd_t (by omega), if_neg (by omega), Int.toNat_natCast, (h.2 k hk).2.2.1, gd_t (by omega), gd_t (by omega)]
    unfold pX11_inPan_28
    by_cases hq : st k = 1
    · rw [if_pos hq]; simp only [cnt, hq]; rfl
    · rw [if_neg hq]; simp only [cnt, hq]; rfl)
  refine Eq.trans this ?_
  rw [pX11_inPan_4, h.1, gd_t (by omega), if_pos (by omega)]
theorem pret_e (hV : Vw n a z st bo) (h : VE σ n a z st bo) : pX4_pretenders σ = some ((bsn (fun e => decide (st e = 2 ∧ hv (a e) (z e) (bo e) = 0)) n : Nat) : Int) := by
  have h7 := hV.1
  have := lp_all (fun m i (c : Int) => pX4_pretenders_4 σ m c i) (fun k => ((bsn (fun e => decide (e < n ∧ st e = 2 ∧ hv (a e) (z e) (bo e) = 0)) k : Nat) : Int)) 7 (by omega) (fun m k hk => by
    have hlt := bsn_lt (fun e => decide (e < n ∧ st e = 2 ∧ hv (a e) (z e) (bo e) = 0)) k
    have hl2 := bsn_lt31 (fun e => decide (e < n ∧ st e = 2 ∧ hv (a e) (z e) (bo e) = 0)) (k := k) (by omega)
    rw [pX4_pretenders_4, gd_t (by omega), if_neg (by omega)]
    unfold pX4_pretenders_34 pX4_pretenders_35
    by_cases he : k < n
    · have hb := hV.2 k he
      have hh := hv_b (a k) (z k) (bo k)
      rw [stateOf_e hV h he, Option.bind_some, gd_t (by omega)]
      by_cases hq : st k = 2
      · rw [if_pos hq, hardnessOf_e hV h he, Option.bind_some, gd_t (by omega)]
        by_cases h0 : hv (a k) (z k) (bo k) = 0
        · rw [if_pos h0, zOr_bit (by omega) hlt]; simp only [bsn, he, hq, h0]; rfl
        · rw [if_neg h0, zOr_0 hl2]; simp only [bsn, he, hq, h0]; rfl
      · rw [if_neg hq, zOr_0 hl2]; simp only [bsn, he, hq]; simp
    · rw [stateOf_o hV h (by omega) (by omega), Option.bind_some, gd_t (by omega), if_neg (by omega), zOr_0 hl2]; simp only [bsn, he]; simp)
  refine Eq.trans this ?_
  rw [pX4_pretenders_4, gd_t (by omega), if_pos (by omega)]
  congr 2
  rw [bsn_out (n := n) hV.1 (fun k h1 h2 => by simp; omega)]
  exact bsn_ext (fun k hk => by simp [hk])
theorem pret_m (hV : Vw n a z st bo) (h : VM μ n a z st bo) : pX11_pretenders μ = some ((bsn (fun e => decide (st e = 2 ∧ hv (a e) (z e) (bo e) = 0)) n : Nat) : Int) := by
  have h7 := hV.1
  have := lp_all (fun m i (c : Int) => pX11_pretenders_4 μ m c i) (fun k => ((bsn (fun e => decide (st e = 2 ∧ hv (a e) (z e) (bo e) = 0)) k : Nat) : Int)) n (by omega) (fun m k hk => by
    have hlt := bsn_lt (fun e => decide (st e = 2 ∧ hv (a e) (z e) (bo e) = 0)) k
    have hl2 := bsn_lt31 (fun e => decide (st e = 2 ∧ hv (a e) (z e) (bo e) = 0)) (k := k) (by omega)
    have hb := hV.2 k hk
    have hh := hv_b (a k) (z k) (bo k)
    rw [pX11_pretenders_4, h.1, gd_t (by omega), if_neg (by omega), Int.toNat_natCast, (h.2 k hk).2.2.1, gd_t (by omega), gd_t (by omega)]
    unfold pX11_pretenders_37 pX11_pretenders_38
    by_cases hq : st k = 2
    · rw [if_pos hq, hard_m hV h hk, Option.bind_some, gd_t (by omega)]
      by_cases h0 : hv (a k) (z k) (bo k) = 0
      · rw [if_pos h0, zOr_bit (by omega) hlt]; simp only [bsn, hq, h0]; rfl
      · rw [if_neg h0, zOr_0 hl2]; simp only [bsn, hq, h0]; rfl
    · rw [if_neg hq, zOr_0 hl2]; simp only [bsn, hq]; simp)
  refine Eq.trans this ?_
  rw [pX11_pretenders_4, h.1, gd_t (by omega), if_pos (by omega)]
/-- the heir among the first k -/
def hrn (P : Nat → Bool) (v : Nat → Int) : Nat → Option Nat
  | 0 => none
  | k + 1 => if P k then (match hrn P v k with | none => some k | some j => if v j < v k then some k else some j) else hrn P v k
def oz : Option Nat → Int
  | none => -1
  | some k => (k : Int)
theorem hrn_lt (P : Nat → Bool) (v : Nat → Int) : ∀ (n j : Nat), hrn P v n = some j → j < n
  | 0, j, h => by cases h
  | k + 1, j, h => by
    have ih := hrn_lt P v k
    unfold hrn at h
    split at h
    · split at h
      · cases h; omega
      · rename_i i hi
        have := ih i hi
        split at h <;> cases h <;> omega
    · have := ih j h; omega
theorem hrn_ext {P Q : Nat → Bool} {v : Nat → Int} : ∀ {n : Nat}, (∀ k, k < n → P k = Q k) → hrn P v n = hrn Q v n
  | 0, _ => rfl
  | n + 1, h => by
    unfold hrn
    rw [h n (by omega), hrn_ext (n := n) (fun k hk => h k (by omega))]
theorem hrn_out {P : Nat → Bool} {v : Nat → Int} {n : Nat} : ∀ {m : Nat}, n ≤ m → (∀ k, n ≤ k → k < m → P k = false) → hrn P v m = hrn P v n
  | 0, h, _ => by obtain rfl : n = 0 := by omega
                  rfl
  | m + 1, h, hP => by
    by_cases e : n = m + 1
    · rw [e]
    · rw [hrn, hP m (by omega) (by omega), if_neg (by decide), hrn_out (m := m) (by omega) (fun k h1 h2 => hP k h1 (by omega))]
theorem hrn_0 {P : Nat → Bool} {v : Nat → Int} {k : Nat} (h : P k = false) : hrn P v (k + 1) = hrn P v k := by rw [hrn, h]; rfl
theorem hrn_1 {P : Nat → Bool} {v : Nat → Int} {k : Nat} (h : P k = true) (hj : hrn P v k = none) : hrn P v (k + 1) = some k := by rw [hrn, h, hj]; rfl
theorem hrn_2 {P : Nat → Bool} {v : Nat → Int} {k j : Nat} (h : P k = true) (hj : hrn P v k = some j) (hc : v j < v k) : hrn P v (k + 1) = some k := by rw [hrn, h, hj, if_pos rfl]; exact if_pos hc
theorem hrn_3 {P : Nat → Bool} {v : Nat → Int} {k j : Nat} (h : P k = true) (hj : hrn P v k = some j) (hc : ¬ v j < v k) : hrn P v (k + 1) = some j := by rw [hrn, h, hj, if_pos rfl]; exact if_neg hc
theorem heir_e (hV : Vw n a z st bo) (h : VE σ n a z st bo) : pX4_heir σ = some (oz (hrn (fun e => decide (st e = 2)) (fun e => rv (a e) (z e) (bo e)) n)) := by
  have h7 := hV.1
  have := lp_all (fun m i (c : Int) => pX4_heir_4 σ m c i) (fun k => oz (hrn (fun e => decide (e < n ∧ st e = 2)) (fun e => rv (a e) (z e) (bo e)) k)) 7 (by omega) (fun m k hk => by
    rw [pX4_heir_4, gd_t (by omega), if_neg (by omega)]
    unfold pX4_heir_37 pX4_heir_39
    by_cases he : k < n
    · have hb := hV.2 k he
      rw [stateOf_e hV h he, Option.bind_some, gd_t (by omega)]
      by_cases hq : st k = 2
      · rw [if_pos hq]
        cases hj : hrn (fun e => decide (e < n ∧ st e = 2)) (fun e => rv (a e) (z e) (bo e)) k with
        | none => rw [hrn_1 (by simp [he, hq]) hj, gd_t (by decide), if_pos (by rfl)]; rfl
        | some j =>
          have hjk := hrn_lt _ _ _ _ hj
          have hr1 := rv_b (a := a k) (b := bo k) (hV.2 k he).2.1
          have hr2 := rv_b (a := a j) (b := bo j) (hV.2 j (by omega)).2.1
          show gd (rg (j : Int)) (if (j : Int) = -1 then _ else Option.bind _ fun r => Option.bind (pX4_reignOf σ (j : Int)) _) = _
          rw [gd_t (by omega), if_neg (by omega), reignOf_e hV h he, Option.bind_some, reignOf_e hV h (by omega), Option.bind_some, gd_t (by omega)]
          by_cases hc : rv (a k) (z k) (bo k) ≤ rv (a j) (z j) (bo j)
          · rw [if_pos hc, hrn_3 (by simp [he, hq]) hj (by omega)]; rfl
          · rw [if_neg hc, hrn_2 (by simp [he, hq]) hj (by omega)]; rfl
      · rw [if_neg hq, hrn_0 (by simp [hq])]; rfl
    · rw [stateOf_o hV h (by omega) (by omega), Option.bind_some, gd_t (by omega), if_neg (by omega), hrn_0 (by simp [he])]; rfl)
  refine Eq.trans this ?_
  rw [pX4_heir_4, gd_t (by omega), if_pos (by omega)]
  congr 2
  rw [hrn_out (n := n) hV.1 (fun k h1 h2 => by simp; omega)]
  exact hrn_ext (fun k hk => by simp [hk])
theorem heir_m (hV : Vw n a z st bo) (h : VM μ n a z st bo) : pX11_heir μ = some (oz (hrn (fun e => decide (st e = 2)) (fun e => rv (a e) (z e) (bo e)) n)) := by
  have h7 := hV.1
  have := lp_all (fun m i (c : Int) => pX11_heir_4 μ m c i) (fun k => oz (hrn (fun e => decide (st e = 2)) (fun e => rv (a e) (z e) (bo e)) k)) n (by omega) (fun m k hk => by
    have hb := hV.2 k hk
    rw [pX11_heir_4, h.1, gd_t (by omega), if_neg (by omega)]
    unfold pX11_heir_29 pX11_heir_34 pX11_heir_53 pX11_heir_54
    rw [Int.toNat_natCast, (h.2 k hk).2.2.1, gd_t (show (0 : Int) ≤ k ∧ (k : Int) < 19 by omega), gd_t (show (0 : Int) ≤ k ∧ (k : Int) < 19 by omega), gd_t (show rg (st k) by omega), gd_t (show rg (st k) by omega)]
    cases hj : hrn (fun e => decide (st e = 2)) (fun e => rv (a e) (z e) (bo e)) k with
    | none =>
      show gd (rg (-1)) (if (-1 : Int) < 0 then _ else _) = _
      rw [gd_t (by decide), if_pos (by decide)]
      by_cases hq : st k = 2
      · rw [if_pos hq, hrn_1 (by simp [hq]) hj, gd_t (by decide), if_neg (by decide)]; rfl
      · rw [if_neg hq, hrn_0 (by simp [hq]), hj]; rfl
    | some j =>
      have hjk := hrn_lt _ _ _ _ hj
      have hr1 := rv_b (a := a k) (b := bo k) (hV.2 k hk).2.1
      have hr2 := rv_b (a := a j) (b := bo j) (hV.2 j (by omega)).2.1
      show gd (rg (j : Int)) (if (j : Int) < 0 then _ else Option.bind _ fun r => Option.bind (pX11_reign μ (j : Int)) _) = _
      rw [gd_t (by omega), if_neg (by omega), reign_m hV h hk, Option.bind_some, reign_m hV h (by omega), Option.bind_some, gd_t (by omega)]
      by_cases hq : st k = 2
      · rw [if_pos hq, if_pos hq]
        by_cases hc : rv (a k) (z k) (bo k) ≤ rv (a j) (z j) (bo j)
        · rw [if_pos hc, gd_t (by decide), if_pos rfl, hrn_3 (by simp [hq]) hj (by omega)]; rfl
        · rw [if_neg hc, gd_t (by decide), if_neg (by decide), hrn_2 (by simp [hq]) hj (by omega)]; rfl
      · rw [if_neg hq, if_neg hq, hrn_0 (by simp [hq]), hj]
        split <;> rfl)
  refine Eq.trans this ?_
  rw [pX11_heir_4, h.1, gd_t (by omega), if_pos (by omega)]
theorem king_l (hV : Vw n a z st bo) (h : VM μ n a z st bo) {j : Nat} (hj : j < n) (h3 : st j = 3) (hn : ∀ e, e < j → st e ≠ 3) : ∀ (d k m : Nat), k + d = j → pX11_king_2 μ (m + d + 1) (k : Int) = some (j : Int) := by
  have h7 := hV.1
  intro d
  induction d with
  | zero =>
    intro k m hk
    obtain rfl : k = j := by omega
    have hb := hV.2 k hj
    rw [pX11_king_2, h.1, gd_t (by omega), if_neg (by omega), Int.toNat_natCast, (h.2 k hj).2.2.1, gd_t (by omega), gd_t (by omega), if_pos h3]
  | succ d ih =>
    intro k m hk
    have hb := hV.2 k (by omega)
    rw [show m + (d + 1) + 1 = (m + d + 1) + 1 from by omega, pX11_king_2, h.1, gd_t (by omega), if_neg (by omega), Int.toNat_natCast, (h.2 k (by omega)).2.2.1, gd_t (by omega), gd_t (by omega), if_neg (hn k (by omega)), cast1]
    exact ih (k + 1) m (by omega)
theorem king_m (hV : Vw n a z st bo) (h : VM μ n a z st bo) {j : Nat} (hj : j < n) (h3 : st j = 3) (hn : ∀ e, e < n → st e = 3 → e = j) : pX11_king μ = some (j : Int) := by
  have h7 := hV.1
  have := king_l hV h hj h3 (fun e he q => by have := hn e (by omega) q; omega) j 0 (99999 - j) (by omega)
  rw [show 99999 - j + j + 1 = FU from by unfold FU; omega] at this
  exact this
theorem king_n (hV : Vw n a z st bo) (h : VM μ n a z st bo) (hn : ∀ e, e < n → st e ≠ 3) : pX11_king μ = some (-1) := by
  have h7 := hV.1
  have := lp_all (fun m i (_ : Unit) => pX11_king_2 μ m i) (fun _ => ()) n (by omega) (fun m k hk => by
    have hb := hV.2 k hk
    rw [pX11_king_2, h.1, gd_t (by omega), if_neg (by omega), Int.toNat_natCast, (h.2 k hk).2.2.1, gd_t (by omega), gd_t (by omega), if_neg (hn k hk), cast1])
  refine Eq.trans this ?_
  rw [pX11_king_2, h.1, gd_t (by omega), if_pos (by omega)]
end
