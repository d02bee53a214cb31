/-! who gets what -/
def fb (F d : Nat) : Bool := F / 2 ^ d % 2 == 1
theorem fb_ne0 : ∀ F, F < 128 → ∀ d, d < 7 → ∀ e, e < 7 → (!(fb F d) || d == e || fb (F - 2 ^ d) e == fb F e) = true := by decide +kernel
theorem fb_ne (F : Nat) (hF : F < 128) (d : Nat) (hd : d < 7) (e : Nat) (he : e < 7) (h : fb F d = true) (hn : d ≠ e) : fb (F - 2 ^ d) e = fb F e := by
  have := fb_ne0 F hF d hd e he
  simpa [h, hn] using this
theorem sb_lt {F : Nat} (hF : F < 128) (k : Nat) : F - 2 ^ k < 128 := Nat.lt_of_le_of_lt (Nat.sub_le _ _) hF
theorem fb_eq : ∀ F, F < 128 → ∀ d, d < 7 → fb F d = true → fb (F - 2 ^ d) d = false := by decide +kernel
def pcn (F : Nat) : Nat := cnt (fun k => fb F k) 7
theorem pc_s : ∀ F, F < 128 → ∀ d, d < 7 → fb F d = true → pcn (F - 2 ^ d) + 1 = pcn F := by decide +kernel
def mxj (P : Nat → Bool) (g : Nat → Int) (b : Int) : Nat → Int
  | 0 => b
  | j + 1 => if P j then max (mxj P g b j) (1 + g j) else mxj P g b j
section
variable {P : Nat → Bool} {g : Nat → Int} {b : Int}
theorem mxj_s (k : Nat) : mxj P g b k ≤ mxj P g b (k + 1) := by
  show _ ≤ if P k then max (mxj P g b k) (1 + g k) else mxj P g b k
  split <;> omega
theorem mxj_mo {k : Nat} : ∀ d, mxj P g b k ≤ mxj P g b (k + d)
  | 0 => Int.le_refl _
  | d + 1 => Int.le_trans (mxj_mo d) (mxj_s (k + d))
theorem mxj_ge {k j : Nat} (hj : j < k) (hp : P j = true) : 1 + g j ≤ mxj P g b k := by
  have h1 : 1 + g j ≤ mxj P g b (j + 1) := by
    show _ ≤ if P j then max (mxj P g b j) (1 + g j) else mxj P g b j
    rw [if_pos hp]
    omega
  have h2 := mxj_mo (P := P) (g := g) (b := b) (k := j + 1) (k - (j + 1))
  rw [show j + 1 + (k - (j + 1)) = k from by omega] at h2
  omega
theorem mxj_b (k : Nat) : b ≤ mxj P g b k := by
  have := mxj_mo (P := P) (g := g) (b := b) (k := 0) k
  rw [Nat.zero_add] at this
  exact this
theorem mxj_le {M : Int} : ∀ {k : Nat}, b ≤ M → (∀ j, j < k → P j = true → 1 + g j ≤ M) → mxj P g b k ≤ M
  | 0, h, _ => h
  | k + 1, h, hj => by
    have ih := mxj_le (k := k) h (fun j q => hj j (by omega))
    show (if P k then max (mxj P g b k) (1 + g k) else mxj P g b k) ≤ M
    split
    · have := hj k (by omega) (by assumption)
      omega
    · exact ih
theorem mxj_at : ∀ k, mxj P g b k = b ∨ ∃ j, j < k ∧ P j = true ∧ mxj P g b k = 1 + g j
  | 0 => Or.inl rfl
  | k + 1 => by
    have ih := mxj_at k
    by_cases hp : P k = true
    · have e : mxj P g b (k + 1) = max (mxj P g b k) (1 + g k) := if_pos hp
      by_cases hm : mxj P g b k ≤ 1 + g k
      · exact Or.inr ⟨k, by omega, hp, by omega⟩
      · rcases ih with h | ⟨j, h1, h2, h3⟩
        · exact Or.inl (by omega)
        · exact Or.inr ⟨j, by omega, h2, by omega⟩
    · have e : mxj P g b (k + 1) = mxj P g b k := if_neg hp
      rw [e]
      rcases ih with h | ⟨j, h1, h2, h3⟩
      · exact Or.inl h
      · exact Or.inr ⟨j, by omega, h2, h3⟩
theorem mxj_ext {P' : Nat → Bool} {g' : Nat → Int} {b' : Int} (hP : ∀ j, P j = P' j) (hg : ∀ j, g j = g' j) (hb : b = b') : ∀ k, mxj P g b k = mxj P' g' b' k
  | 0 => hb
  | k + 1 => by
    show (if P k then max (mxj P g b k) (1 + g k) else mxj P g b k) = if P' k then max (mxj P' g' b' k) (1 + g' k) else mxj P' g' b' k
    rw [hP, hg, mxj_ext hP hg hb k]
end
def pkf (Q : Nat → Bool) : Nat → Nat → Nat
  | 0, j => j
  | d + 1, j => if Q j then j else pkf Q d (j + 1)
theorem pkf_ok (Q : Nat → Bool) : ∀ d j, j ≤ pkf Q d j ∧ pkf Q d j ≤ j + d ∧ (pkf Q d j < j + d → Q (pkf Q d j) = true) ∧ (∀ i, j ≤ i → i < pkf Q d j → Q i = false)
  | 0, j => ⟨Nat.le_refl _, Nat.le_refl _, fun h => absurd h (Nat.lt_irrefl _), fun i h1 h2 => by have : pkf Q 0 j = j := rfl; omega⟩
  | d + 1, j => by
    obtain ⟨h1, h2, h3, h4⟩ := pkf_ok Q d (j + 1)
    by_cases hq : Q j = true
    · have e : pkf Q (d + 1) j = j := if_pos hq
      rw [e]
      exact ⟨Nat.le_refl _, by omega, fun _ => hq, fun i a b => by omega⟩
    · have e : pkf Q (d + 1) j = pkf Q d (j + 1) := if_neg hq
      rw [e]
      refine ⟨by omega, by omega, fun h => h3 (by omega), fun i a b => ?_⟩
      by_cases hi : i = j
      · rw [hi]; simpa using hq
      · exact h4 i (by omega) b
def BB (L : Nat → Nat → Bool) : Nat → Nat → Nat → Nat → Int → Int
  | 0, _, _, _, n => n
  | m + 1, s, c, F, n => if c % 8 = 7 then BB L m s (c / 8) F n else if (L (s + m) (c % 8) && fb F (c % 8)) = true then BB L m s (c / 8) (F - 2 ^ (c % 8)) (n + 1) else -1
def VV (L : Nat → Nat → Bool) : Nat → Nat → Nat → Int
  | 0, _, _ => 0
  | m + 1, s, F => mxj (fun j => L s j && fb F j) (fun j => VV L m (s + 1) (F - 2 ^ j)) (VV L m (s + 1) F) 7
def Qk (L : Nat → Nat → Bool) (m s F : Nat) (j : Nat) : Bool := L s j && fb F j && decide (1 + VV L m (s + 1) (F - 2 ^ j) = VV L (m + 1) s F)
def pk (L : Nat → Nat → Bool) (m s F : Nat) : Nat := pkf (Qk L m s F) 7 0
def nx (L : Nat → Nat → Bool) (m s F : Nat) : Nat := if pk L m s F = 7 then F else F - 2 ^ pk L m s F
def cg (L : Nat → Nat → Bool) : Nat → Nat → Nat → Nat
  | 0, _, _ => 0
  | m + 1, s, F => pk L m s F * 8 ^ m + cg L m (s + 1) (nx L m s F)
def dgt (L : Nat → Nat → Bool) : Nat → Nat → Nat → Nat → Nat
  | 0, _, _, _ => 0
  | m + 1, s, F, 0 => pk L m s F
  | m + 1, s, F, i + 1 => dgt L m (s + 1) (nx L m s F) i
section
variable {L : Nat → Nat → Bool}
theorem BB_top : ∀ (m s d r F : Nat) (n : Int), d < 8 → r < 8 ^ m → F < 128 → BB L (m + 1) s (d * 8 ^ m + r) F n = if d = 7 then BB L m (s + 1) r F n else if (L s d && fb F d) = true then BB L m (s + 1) r (F - 2 ^ d) (n + 1) else -1
  | 0, s, d, r, F, n, hd, hr, hF => by
    obtain rfl : r = 0 := by have : 8 ^ 0 = 1 := rfl; omega
    have e : d * 8 ^ 0 + 0 = d := by rw [Nat.pow_zero]; omega
    rw [e]
    show (if d % 8 = 7 then n else if (L s (d % 8) && fb F (d % 8)) = true then n + 1 else -1) = _
    rw [Nat.mod_eq_of_lt hd]
    rfl
  | m + 1, s, d, r, F, n, hd, hr, hF => by
    have hr' : r / 8 < 8 ^ m := by rw [Nat.pow_succ] at hr; omega
    have e1 : (d * 8 ^ (m + 1) + r) % 8 = r % 8 := by rw [Nat.pow_succ, ← Nat.mul_assoc]; omega
    have e2 : (d * 8 ^ (m + 1) + r) / 8 = d * 8 ^ m + r / 8 := by rw [Nat.pow_succ, ← Nat.mul_assoc]; omega
    have hs : s + (m + 1) = s + 1 + m := by omega
    have hlt := Nat.mod_lt r (show 0 < 8 by decide)
    rw [BB, e1, e2, hs]
    have R1 : ∀ F n, BB L (m + 1) (s + 1) r F n = if r % 8 = 7 then BB L m (s + 1) (r / 8) F n else if (L (s + 1 + m) (r % 8) && fb F (r % 8)) = true then BB L m (s + 1) (r / 8) (F - 2 ^ (r % 8)) (n + 1) else -1 := fun F n => rfl
    rw [R1, R1]
    by_cases h7 : r % 8 = 7
    · rw [if_pos h7, if_pos h7, if_pos h7, BB_top m s d (r / 8) F n hd hr' hF]
    · rw [if_neg h7, if_neg h7, if_neg h7]
      by_cases hc : (L (s + 1 + m) (r % 8) && fb F (r % 8)) = true
      · rw [if_pos hc, if_pos hc, BB_top m s d (r / 8) _ _ hd hr' (sb_lt hF _)]
        by_cases hd7 : d = 7
        · rw [if_pos hd7, if_pos hd7]
        · rw [if_neg hd7, if_neg hd7]
          simp only [Bool.and_eq_true] at hc
          by_cases hdr : r % 8 = d
          · rw [hdr] at hc ⊢
            rw [fb_eq F hF d (by omega) hc.2, Bool.and_false, Bool.and_false]
            simp
          · by_cases hdd : fb F d = true
            · rw [fb_ne F hF (r % 8) (by omega) d (by omega) hc.2 hdr, fb_ne F hF d (by omega) (r % 8) (by omega) hdd (fun q => hdr q.symm), hc.1, hc.2, Nat.sub_right_comm]
              simp
            · rw [fb_ne F hF (r % 8) (by omega) d (by omega) hc.2 hdr]
              simp [hdd]
      · rw [if_neg hc, if_neg hc]
        by_cases hd7 : d = 7
        · rw [if_pos hd7]
        · rw [if_neg hd7]
          by_cases hq : (L s d && fb F d) = true
          · rw [if_pos hq]
            simp only [Bool.and_eq_true] at hq
            by_cases hdr : r % 8 = d
            · rw [hdr, fb_eq F hF d (by omega) hq.2, Bool.and_false]
              simp
            · rw [fb_ne F hF d (by omega) (r % 8) (by omega) hq.2 (fun q => hdr q.symm), if_neg hc]
          · rw [if_neg hq]
theorem VV_b : ∀ (m s F : Nat), F < 128 → 0 ≤ VV L m s F ∧ VV L m s F ≤ m ∧ VV L m s F ≤ pcn F
  | 0, s, F, hF => ⟨Int.le_refl _, Int.le_refl _, Int.natCast_nonneg _⟩
  | m + 1, s, F, hF => by
    have i0 := VV_b m (s + 1) F hF
    refine ⟨Int.le_trans i0.1 (mxj_b 7), mxj_le (by omega) (fun j hj hp => ?_), mxj_le (by omega) (fun j hj hp => ?_)⟩
    · have := VV_b m (s + 1) (F - 2 ^ j) (sb_lt hF _)
      show 1 + VV L m (s + 1) (F - 2 ^ j) ≤ _
      omega
    · have := VV_b m (s + 1) (F - 2 ^ j) (sb_lt hF _)
      simp only [Bool.and_eq_true] at hp
      have := pc_s F hF j hj hp.2
      show 1 + VV L m (s + 1) (F - 2 ^ j) ≤ _
      omega
theorem pk_ok (m s F : Nat) : pk L m s F ≤ 7 ∧ (pk L m s F < 7 → Qk L m s F (pk L m s F) = true) ∧ (∀ i, i < pk L m s F → Qk L m s F i = false) := by
  obtain ⟨h1, h2, h3, h4⟩ := pkf_ok (Qk L m s F) 7 0
  exact ⟨h2, h3, fun i hi => h4 i (by omega) hi⟩
theorem nx_lt (m s F : Nat) (hF : F < 128) : nx L m s F < 128 := by
  unfold nx; split
  · exact hF
  · exact sb_lt hF _
theorem nx_V (m s F : Nat) : VV L m (s + 1) (nx L m s F) = VV L (m + 1) s F - (if pk L m s F = 7 then 0 else 1) := by
  obtain ⟨h1, h2, h3⟩ := pk_ok (L := L) m s F
  unfold nx
  by_cases h : pk L m s F = 7
  · rw [if_pos h, if_pos h]
    rcases mxj_at (P := fun j => L s j && fb F j) (g := fun j => VV L m (s + 1) (F - 2 ^ j)) (b := VV L m (s + 1) F) 7 with q | ⟨j, hj, hp, he⟩
    · have q : VV L (m + 1) s F = VV L m (s + 1) F := q
      omega
    · have := h3 j (by omega)
      have he : VV L (m + 1) s F = 1 + VV L m (s + 1) (F - 2 ^ j) := he
      unfold Qk at this
      rw [hp, he] at this
      simp at this
  · rw [if_neg h, if_neg h]
    have := h2 (by omega)
    unfold Qk at this
    simp only [Bool.and_eq_true, decide_eq_true_eq] at this
    omega
theorem cg_ok : ∀ (m s F : Nat) (n : Int), F < 128 → 0 ≤ n → cg L m s F < 8 ^ m ∧ BB L m s (cg L m s F) F n = n + VV L m s F ∧ (∀ c, c < 8 ^ m → BB L m s c F n ≤ n + VV L m s F) ∧ (∀ c, c < cg L m s F → BB L m s c F n < n + VV L m s F)
  | 0, s, F, n, hF, hn => ⟨by show 0 < 8 ^ 0; decide, by show n = n + 0; omega, fun c hc => by show n ≤ n + 0; omega, fun c hc => absurd hc (Nat.not_lt_zero _)⟩
  | m + 1, s, F, n, hF, hn => by
    obtain ⟨p1, p2, p3⟩ := pk_ok (L := L) m s F
    have hV := nx_V (L := L) m s F
    have hx := nx_lt (L := L) m s F hF
    have hb := VV_b (L := L) (m + 1) s F hF
    have h8 : 8 ^ (m + 1) = 8 * 8 ^ m := Nat.pow_succ'
    have hpos : 0 < 8 ^ m := Nat.pow_pos (by decide)
    have ec : cg L (m + 1) s F = pk L m s F * 8 ^ m + cg L m (s + 1) (nx L m s F) := rfl
    have hcl := (cg_ok m (s + 1) (nx L m s F) n hx hn).1
    have hle : ∀ d r, d < 8 → r < 8 ^ m → BB L (m + 1) s (d * 8 ^ m + r) F n ≤ n + VV L (m + 1) s F ∧ (d < pk L m s F → BB L (m + 1) s (d * 8 ^ m + r) F n < n + VV L (m + 1) s F) := by
      intro d r hd hr
      rw [BB_top m s d r F n hd hr hF]
      by_cases h7 : d = 7
      · rw [if_pos h7]
        have := (cg_ok m (s + 1) F n hF hn).2.2.1 r hr
        have := mxj_b (P := fun j => L s j && fb F j) (g := fun j => VV L m (s + 1) (F - 2 ^ j)) (b := VV L m (s + 1) F) 7
        have : VV L m (s + 1) F ≤ VV L (m + 1) s F := this
        exact ⟨by omega, fun q => by omega⟩
      · rw [if_neg h7]
        by_cases hq : (L s d && fb F d) = true
        · rw [if_pos hq]
          have h1 := (cg_ok m (s + 1) (F - 2 ^ d) (n + 1) (sb_lt hF _) (by omega)).2.2.1 r hr
          have h2 := mxj_ge (P := fun j => L s j && fb F j) (g := fun j => VV L m (s + 1) (F - 2 ^ j)) (b := VV L m (s + 1) F) (k := 7) (j := d) (by omega) hq
          have h2 : 1 + VV L m (s + 1) (F - 2 ^ d) ≤ VV L (m + 1) s F := h2
          refine ⟨by omega, fun q => ?_⟩
          have := p3 d q
          unfold Qk at this
          rw [hq] at this
          simp at this
          omega
        · rw [if_neg hq]
          exact ⟨by omega, fun _ => by omega⟩
    have heq : ∀ r, r < 8 ^ m → BB L (m + 1) s (pk L m s F * 8 ^ m + r) F n = BB L m (s + 1) r (nx L m s F) (n + (if pk L m s F = 7 then 0 else 1)) := by
      intro r hr
      rw [BB_top m s _ r F n (by omega) hr hF]
      unfold nx
      by_cases h7 : pk L m s F = 7
      · rw [if_pos h7, if_pos h7, if_pos h7, Int.add_zero]
      · have := p2 (by omega)
        unfold Qk at this
        simp only [Bool.and_eq_true, decide_eq_true_eq] at this
        rw [if_neg h7, if_neg h7, if_neg h7, if_pos (by simp only [Bool.and_eq_true]; exact this.1)]
    have i2 := cg_ok m (s + 1) (nx L m s F) (n + (if pk L m s F = 7 then 0 else 1)) hx (by split <;> omega)
    have hm : pk L m s F * 8 ^ m ≤ 7 * 8 ^ m := Nat.mul_le_mul_right _ p1
    refine ⟨by omega, ?_, ?_, ?_⟩
    · rw [ec, heq _ hcl, i2.2.1]
      omega
    · intro c hc
      have e := Nat.div_add_mod' c (8 ^ m)
      rw [← e]
      exact (hle (c / 8 ^ m) (c % 8 ^ m) (by rw [Nat.div_lt_iff_lt_mul hpos]; omega) (Nat.mod_lt _ hpos)).1
    · intro c hc
      have e := Nat.div_add_mod' c (8 ^ m)
      have hr := Nat.mod_lt c hpos
      have hd8 : c / 8 ^ m < 8 := by rw [Nat.div_lt_iff_lt_mul hpos]; omega
      rw [← e]
      by_cases hlt : c / 8 ^ m < pk L m s F
      · exact (hle _ _ hd8 hr).2 hlt
      · have : c / 8 ^ m = pk L m s F := by
          have : c / 8 ^ m < pk L m s F + 1 := by
            rw [Nat.div_lt_iff_lt_mul hpos, Nat.add_mul]
            omega
          omega
        rw [this, heq _ hr]
        rw [this] at e
        have := i2.2.2.2 (c % 8 ^ m) (by omega)
        omega
theorem cg_dig : ∀ (m s F i : Nat), F < 128 → i < m → cg L m s F / 8 ^ (m - 1 - i) % 8 = dgt L m s F i
  | 0, s, F, i, hF, hi => absurd hi (Nat.not_lt_zero _)
  | m + 1, s, F, 0, hF, hi => by
    have h1 := (pk_ok (L := L) m s F).1
    have hcl := (cg_ok (L := L) m (s + 1) (nx L m s F) 0 (nx_lt m s F hF) (Int.le_refl _)).1
    have hpos : 0 < 8 ^ m := Nat.pow_pos (by decide)
    show (pk L m s F * 8 ^ m + cg L m (s + 1) (nx L m s F)) / 8 ^ (m + 1 - 1 - 0) % 8 = pk L m s F
    rw [show m + 1 - 1 - 0 = m from by omega, Nat.add_comm, Nat.add_mul_div_right _ _ hpos, Nat.div_eq_of_lt hcl]
    omega
  | m + 1, s, F, i + 1, hF, hi => by
    have ih := cg_dig m (s + 1) (nx L m s F) i (nx_lt m s F hF) (by omega)
    have hpos : 0 < 8 ^ (m - 1 - i) := Nat.pow_pos (by decide)
    show (pk L m s F * 8 ^ m + cg L m (s + 1) (nx L m s F)) / 8 ^ (m + 1 - 1 - (i + 1)) % 8 = dgt L m (s + 1) (nx L m s F) i
    have e : 8 ^ m = 8 ^ i * 8 * 8 ^ (m - 1 - i) := by rw [← Nat.pow_succ, ← Nat.pow_add]; congr 1; omega
    rw [← ih, show m + 1 - 1 - (i + 1) = m - 1 - i from by omega, e, ← Nat.mul_assoc, Nat.add_comm, Nat.add_mul_div_right _ _ hpos, ← Nat.mul_assoc]
    omega
theorem VV_0 : ∀ (p s F : Nat), (∀ i j, s ≤ i → L i j = false) → VV L p s F = 0
  | 0, _, _, _ => rfl
  | p + 1, s, F, h => by
    have e : VV L (p + 1) s F = VV L p (s + 1) F := by
      rcases mxj_at (P := fun j => L s j && fb F j) (g := fun j => VV L p (s + 1) (F - 2 ^ j)) (b := VV L p (s + 1) F) 7 with q | ⟨j, hj, hp, he⟩
      · exact q
      · simp only [h s j (Nat.le_refl _), Bool.false_and] at hp
        cases hp
    rw [e]
    exact VV_0 p (s + 1) F (fun i j hi => h i j (by omega))
theorem VV_pad {p : Nat} : ∀ (m s F : Nat), (∀ i j, s + m ≤ i → L i j = false) → VV L (m + p) s F = VV L m s F
  | 0, s, F, h => by rw [Nat.zero_add]; exact VV_0 p s F h
  | m + 1, s, F, h => by
    rw [show m + 1 + p = (m + p) + 1 from by omega]
    exact mxj_ext (fun _ => rfl) (fun j => VV_pad m (s + 1) (F - 2 ^ j) (fun i j hi => h i j (by omega))) (VV_pad m (s + 1) F (fun i j hi => h i j (by omega))) 7
theorem pk_pad {p m s F : Nat} (h : ∀ i j, s + (m + 1) ≤ i → L i j = false) : pk L (m + p) s F = pk L m s F := by
  unfold pk
  congr 1
  funext j
  unfold Qk
  have := VV_pad (L := L) (p := p) (m + 1) s F h
  rw [show m + 1 + p = m + p + 1 from by omega] at this
  rw [this, VV_pad m (s + 1) _ (fun i j hi => h i j (by omega))]
theorem dgt_pad {p : Nat} : ∀ (m s F i : Nat), i < m → (∀ i j, s + m ≤ i → L i j = false) → dgt L (m + p) s F i = dgt L m s F i
  | 0, _, _, _, hi, _ => absurd hi (Nat.not_lt_zero _)
  | m + 1, s, F, 0, hi, h => by
    rw [show m + 1 + p = (m + p) + 1 from by omega]
    exact pk_pad h
  | m + 1, s, F, i + 1, hi, h => by
    rw [show m + 1 + p = (m + p) + 1 from by omega]
    show dgt L (m + p) (s + 1) (nx L (m + p) s F) i = dgt L m (s + 1) (nx L m s F) i
    have : nx L (m + p) s F = nx L m s F := by unfold nx; rw [pk_pad h]
    rw [this]
    exact dgt_pad m (s + 1) _ i (by omega) (fun i j hi => h i j (by omega))
end
