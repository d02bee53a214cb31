/-! what class and reference show of the eggs: one view of both -/
def Vw (n : Nat) (a z st bo : Nat → Int) : Prop := n ≤ 7 ∧ ∀ e, e < n → (0 ≤ a e ∧ a e ≤ 30) ∧ (1 ≤ z e ∧ z e ≤ 5) ∧ (0 ≤ st e ∧ st e ≤ 5) ∧ (0 ≤ bo e ∧ bo e ≤ 9060)
def VE (σ : St) (n : Nat) (a z st bo : Nat → Int) : Prop := σ.1 5 = (n : Int) ∧ ∀ e, e < n → σ.2 0 e = a e ∧ σ.2 1 e = z e ∧ σ.2 11 e = st e ∧ σ.2 12 e = bo e
def VM (μ : St) (n : Nat) (a z st bo : Nat → Int) : Prop := μ.1 2 = (n : Int) ∧ ∀ e, e < n → μ.2 0 e = a e ∧ μ.2 1 e = z e ∧ μ.2 5 e = st e ∧ μ.2 5 (7 + e) = bo e
def hv (a z b : Int) : Int := max 0 (min 99 (10 * b - 5 * z + a / 3))
def rv (a z b : Int) : Int := 1 + hv a z b / 10 + z
theorem hv_b (a z b : Int) : 0 ≤ hv a z b ∧ hv a z b ≤ 99 := by unfold hv; omega
theorem rv_b {a z b : Int} (h : 1 ≤ z ∧ z ≤ 5) : 2 ≤ rv a z b ∧ rv a z b ≤ 15 := by
  have := hv_b a z b
  unfold rv
  omega
theorem hasEgg_e {σ : St} {n : Nat} (hn : σ.1 5 = (n : Int)) (h7 : n ≤ 7) {x : Int} (hx : rg x) : pX8_hasEgg_c1 σ x = some (if 0 ≤ x ∧ x < (n : Int) then 1 else 0) := by
  unfold pX8_hasEgg_c1 pX8_hasEgg_c1_0
  rw [hn]
  by_cases h : 0 ≤ x ∧ x < n
  · simp (disch := omega) only [gd_t, if_neg, if_pos]
  · by_cases h0 : x < 0
    · simp (disch := omega) only [gd_t, if_neg, if_pos]
    · simp (disch := omega) only [gd_t, if_neg, if_pos]
section
variable {σ μ : St} {n : Nat} {a z st bo : Nat → Int}
theorem stateOf_e (hv : Vw n a z st bo) (h : VE σ n a z st bo) {e : Nat} (he : e < n) : pX4_stateOf σ (e : Int) = some (st e) := by
  have h7 := hv.1
  unfold pX4_stateOf pX4_stateOf_0
  rw [hasEgg_e h.1 h7 (by omega), if_pos (by omega)]
  simp (disch := omega) only [gd_t, if_neg, Option.bind_some, Int.toNat_natCast, (h.2 e he).2.2.1]
theorem stateOf_o (hv : Vw n a z st bo) (h : VE σ n a z st bo) {e : Nat} (he : n ≤ e) (h9 : e < 1000) : pX4_stateOf σ (e : Int) = some (-1) := by
  have h7 := hv.1
  unfold pX4_stateOf pX4_stateOf_0
  rw [hasEgg_e h.1 h7 (by omega), if_neg (by omega)]
  simp (disch := omega) only [gd_t, if_pos, Option.bind_some, ite_true]
theorem boiledOf_e (hv : Vw n a z st bo) (h : VE σ n a z st bo) {e : Nat} (he : e < n) : pX4_boiledOf σ (e : Int) = some (bo e) := by
  have h7 := hv.1
  unfold pX4_boiledOf pX4_boiledOf_0
  rw [hasEgg_e h.1 h7 (by omega), if_pos (by omega)]
  simp (disch := omega) only [gd_t, if_neg, Option.bind_some, Int.toNat_natCast, (h.2 e he).2.2.2]
theorem hardness_e (hV : Vw n a z st bo) (h : VE σ n a z st bo) {e : Nat} (he : e < n) {b : Int} (hb : 0 ≤ b ∧ b ≤ 9060) : pX8_hardness_c1 σ (e : Int) b = some (hv (a e) (z e) b) := by
  have h7 := hV.1
  have hb1 := hV.2 e he
  unfold pX8_hardness_c1 pX8_hardness_c1_0 hv
  rw [hasEgg_e h.1 h7 (by omega), if_pos (by omega)]
  simp only [Option.bind_some, Int.toNat_natCast, (h.2 e he).1, (h.2 e he).2.1]
  simp (disch := omega) only [gd_t, if_neg]
theorem hardnessOf_e (hV : Vw n a z st bo) (h : VE σ n a z st bo) {e : Nat} (he : e < n) : pX4_hardnessOf σ (e : Int) = some (hv (a e) (z e) (bo e)) := by
  unfold pX4_hardnessOf pX4_hardnessOf_0
  simp only [boiledOf_e hV h he, hardness_e hV h he (hV.2 e he).2.2.2, Option.bind_some]
theorem sizeOf_e (hv : Vw n a z st bo) (h : VE σ n a z st bo) {e : Nat} (he : e < n) : pX8_sizeOf_c1 σ (e : Int) = some (z e) := by
  have h7 := hv.1
  unfold pX8_sizeOf_c1 pX8_sizeOf_c1_0
  rw [hasEgg_e h.1 h7 (by omega), if_pos (by omega)]
  simp (disch := omega) only [gd_t, if_neg, Option.bind_some, Int.toNat_natCast, (h.2 e he).2.1]
theorem reignBy_e (hV : Vw n a z st bo) (h : VE σ n a z st bo) {e : Nat} (he : e < n) {b : Int} (hb : 0 ≤ b ∧ b ≤ 9060) : pX8_reign_c1 σ (e : Int) b = some (rv (a e) (z e) b) := by
  have := hv_b (a e) (z e) b
  unfold pX8_reign_c1 pX8_reign_c1_0 rv
  simp (disch := omega) only [hardness_e hV h he hb, sizeOf_e hV h he, gd_t, Option.bind_some]
theorem reignOf_e (hV : Vw n a z st bo) (h : VE σ n a z st bo) {e : Nat} (he : e < n) : pX4_reignOf σ (e : Int) = some (rv (a e) (z e) (bo e)) := by
  unfold pX4_reignOf pX4_reignOf_0
  simp only [boiledOf_e hV h he, reignBy_e hV h he (hV.2 e he).2.2.2, Option.bind_some]
/-- the reference -/
theorem hardBy_m (hV : Vw n a z st bo) (h : VM μ n a z st bo) {e : Nat} (he : e < n) {b : Int} (hb : 0 ≤ b ∧ b ≤ 9060) : pX11_hardBy μ (e : Int) b = some (hv (a e) (z e) b) := by
  have h7 := hV.1
  have hb1 := hV.2 e he
  unfold pX11_hardBy pX11_hardBy_0 hv
  simp only [Int.toNat_natCast, (h.2 e he).1, (h.2 e he).2.1]
  simp (disch := omega) only [gd_t]
  generalize 10 * b - 5 * z e + a e / 3 = v
  by_cases h1 : 0 ≤ v
  · by_cases h2 : 99 ≤ v
    · rw [if_pos h1, if_pos h2]; congr 1; omega
    · rw [if_pos h1, if_neg h2]; congr 1; omega
  · rw [if_neg h1]; congr 1; omega
theorem hard_m (hV : Vw n a z st bo) (h : VM μ n a z st bo) {e : Nat} (he : e < n) : pX11_hard μ (e : Int) = some (hv (a e) (z e) (bo e)) := by
  have h7 := hV.1
  unfold pX11_hard pX11_hard_0
  have e7 : Int.toNat (7 + (e : Int)) = 7 + e := by omega
  rw [gd_t (by omega), e7, (h.2 e he).2.2.2, hardBy_m hV h he (hV.2 e he).2.2.2]
  rfl
theorem reignBy_m (hV : Vw n a z st bo) (h : VM μ n a z st bo) {e : Nat} (he : e < n) {b : Int} (hb : 0 ≤ b ∧ b ≤ 9060) : pX11_reignBy μ (e : Int) b = some (rv (a e) (z e) b) := by
  have h7 := hV.1
  have := hv_b (a e) (z e) b
  unfold pX11_reignBy pX11_reignBy_0 rv
  simp (disch := omega) only [hardBy_m hV h he hb, gd_t, Option.bind_some, Int.toNat_natCast, (h.2 e he).2.1]
theorem reign_m (hV : Vw n a z st bo) (h : VM μ n a z st bo) {e : Nat} (he : e < n) : pX11_reign μ (e : Int) = some (rv (a e) (z e) (bo e)) := by
  have h7 := hV.1
  unfold pX11_reign pX11_reign_0
  have e7 : Int.toNat (7 + (e : Int)) = 7 + e := by omega
  rw [gd_t (by omega), e7, (h.2 e he).2.2.2, reignBy_m hV h he (hV.2 e he).2.2.2]
  rfl
/-! sets of eggs -/
theorem cast1 (k : Nat) : (k : Int) + 1 = ((k + 1 : Nat) : Int) := rfl
theorem setThat_l (hV : Vw n a z st bo) (h : VE σ n a z st bo) {s : Int} (hs : 0 ≤ s ∧ s ≤ 5) : ∀ (d k m : Nat), k + d = 7 → pX4_setThatIs_4 σ (m + d + 1) s (bsn (fun e => decide (e < n ∧ st e = s)) k) (k : Int) = some ((bsn (fun e => decide (e < n ∧ st e = s)) 7 : Nat) : Int) := by
  intro d
  induction d with
  | zero =>
    intro k m hk
    obtain rfl : k = 7 := by omega
    rw [pX4_setThatIs_4, gd_t (by decide), if_pos (by decide)]
  | succ d ih =>
    intro k m hk
    have hlt := bsn_lt (fun e => decide (e < n ∧ st e = s)) k
    have hl2 := bsn_lt31 (fun e => decide (e < n ∧ st e = s)) (k := k) (by omega)
    have hstep := ih (k + 1) m (by omega)
    rw [show m + (d + 1) + 1 = (m + d + 1) + 1 from by omega, pX4_setThatIs_4, gd_t (by omega), if_neg (by omega)]
    unfold pX4_setThatIs_27
    by_cases he : k < n
    · have hb := hV.2 k he
      rw [stateOf_e hV h he, Option.bind_some, gd_t (by omega)]
      by_cases hq : st k = s
      · rw [if_pos hq, zOr_bit (by omega) hlt, cast1]
        rw [show bsn (fun e => decide (e < n ∧ st e = s)) (k + 1) = bsn (fun e => decide (e < n ∧ st e = s)) k + 2 ^ k from by simp [bsn, he, hq]] at hstep
        exact hstep
      · rw [if_neg hq, zOr_0 hl2, cast1]
        rw [show bsn (fun e => decide (e < n ∧ st e = s)) (k + 1) = bsn (fun e => decide (e < n ∧ st e = s)) k from by simp [bsn, hq]] at hstep
        exact hstep
    · rw [stateOf_o hV h (by omega) (by omega), Option.bind_some, gd_t (by omega), if_neg (by omega), zOr_0 hl2, cast1]
      rw [show bsn (fun e => decide (e < n ∧ st e = s)) (k + 1) = bsn (fun e => decide (e < n ∧ st e = s)) k from by simp [bsn, he]] at hstep
      exact hstep
theorem setThat_e (hV : Vw n a z st bo) (h : VE σ n a z st bo) {s : Int} (hs : 0 ≤ s ∧ s ≤ 5) : pX4_setThatIs σ s = some ((bsn (fun e => decide (st e = s)) n : Nat) : Int) := by
  have := setThat_l hV h hs 7 0 99992 rfl
  have e1 : bsn (fun e => decide (e < n ∧ st e = s)) 7 = bsn (fun e => decide (st e = s)) n := by
    rw [bsn_out (n := n) hV.1 (fun k h1 h2 => by simp; omega)]
    exact bsn_ext (fun k hk => by simp [hk])
  rw [e1] at this
  exact this
theorem allThat_l (hV : Vw n a z st bo) (h : VM μ n a z st bo) {s : Int} (hs : 0 ≤ s ∧ s ≤ 5) : ∀ (d k m : Nat), k + d = n → pX11_allThat_4 μ (m + d + 1) s (bsn (fun e => decide (st e = s)) k) (k : Int) = some ((bsn (fun e => decide (st e = s)) n : Nat) : Int) := by
  have h7 := hV.1
  intro d
  induction d with
  | zero =>
    intro k m hk
    obtain rfl : k = n := by omega
    rw [pX11_allThat_4, h.1, gd_t (by omega), if_pos (by omega)]
  | succ d ih =>
    intro k m hk
    have hlt := bsn_lt (fun e => decide (st e = s)) k
    have hl2 := bsn_lt31 (fun e => decide (st e = s)) (k := k) (by omega)
    have hstep := ih (k + 1) m (by omega)
    have hb := hV.2 k (by omega)
    rw [show m + (d + 1) + 1 = (m + d + 1) + 1 from by omega, pX11_allThat_4, h.1, gd_t (by omega), if_neg (by omega), Int.toNat_natCast, (h.2 k (by omega)).2.2.1, gd_t (by omega), gd_t (by omega)]
    unfold pX11_allThat_30
    by_cases hq : st k = s
    · rw [if_pos hq, zOr_bit (by omega) hlt, cast1]
      rw [show bsn (fun e => decide (st e = s)) (k + 1) = bsn (fun e => decide (st e = s)) k + 2 ^ k from by simp [bsn, hq]] at hstep
      exact hstep
    · rw [if_neg hq, zOr_0 hl2, cast1]
      rw [show bsn (fun e => decide (st e = s)) (k + 1) = bsn (fun e => decide (st e = s)) k from by simp [bsn, hq]] at hstep
      exact hstep
theorem allThat_m (hV : Vw n a z st bo) (h : VM μ n a z st bo) {s : Int} (hs : 0 ≤ s ∧ s ≤ 5) : pX11_allThat μ s = some ((bsn (fun e => decide (st e = s)) n : Nat) : Int) := by
  have h7 := hV.1
  have := allThat_l hV h hs n 0 (99999 - n) (by omega)
  rw [show 99999 - n + n + 1 = FU from by unfold FU; omega] at this
  exact this
end
