/-! the reference's side of who gets what -/
theorem usd_h : ∀ F : Nat, F < 128 → ∀ d : Nat, d < 7 → pX11_has (127 - (F : Int)) (d : Int) = some (if fb F d = true then 0 else 1) := by decide +kernel
theorem usd_o : ∀ F : Nat, F < 128 → ∀ d : Nat, d < 7 → fb F d = true → zOr (127 - (F : Int)) (zShl 1 (d : Int)) = 127 - ((F - 2 ^ d : Nat) : Int) := by decide +kernel
theorem BB_lo {L : Nat → Nat → Bool} : ∀ (m s c F : Nat) (n : Int), 0 ≤ n → BB L m s c F n = -1 ∨ n ≤ BB L m s c F n
  | 0, s, c, F, n, h => Or.inr (Int.le_refl _)
  | m + 1, s, c, F, n, h => by
    rw [BB]
    split
    · exact BB_lo m s _ F n h
    · split
      · rcases BB_lo (L := L) m s (c / 8) (F - 2 ^ (c % 8)) (n + 1) (by omega) with q | q
        · exact Or.inl q
        · exact Or.inr (by omega)
      · exact Or.inl rfl
def dig8 (m c i : Nat) : Nat := c / 8 ^ (m - 1 - i) % 8
section
variable {μ : St} {L : Nat → Nat → Bool} {k : Nat}
/-- what the reference likes -/
def LkM (μ : St) (L : Nat → Nat → Bool) (k : Nat) : Prop := ∀ (G B : Nat → Int) (i j : Nat), i < k → j < 7 → pX11_likes (sA (sA μ 17 B) 16 G) (i : Int) (j : Int) = some (if L i j = true then 1 else 0)
def PG (μ : St) (G B : Nat → Int) : St := sA (sA μ 17 B) 16 G
theorem PG_G (μ : St) (G B G' : Nat → Int) : sA (PG μ G B) 16 G' = PG μ G' B := sA_sA _ _ _ _
theorem PG_B (μ : St) (G B B' : Nat → Int) : sA (PG μ G B) 17 B' = PG μ G B' := by
  unfold PG
  rw [sA_comm (sA μ 17 B) (show (16 : Nat) ≠ 17 by decide), sA_sA]
theorem give_l (hL : LkM μ L k) (h5 : k ≤ 5) (B : Nat → Int) : ∀ (m fu c F : Nat) (n : Int) (G : Nat → Int), m ≤ k → c < 1000000 → F < 128 → 0 ≤ n → ∃ G', pX11_giveBy_15 (fu + m + 1) (PG μ G B) (c : Int) (127 - (F : Int)) n ((m : Int) - 1) = some (BB L m 0 c F n, PG μ G' B) ∧ (0 ≤ BB L m 0 c F n → ∀ i, i < m → G' i = ((dig8 m c i : Nat) : Int)) ∧ (0 ≤ BB L m 0 c F n → ∀ i, m ≤ i → G' i = G i)
  | 0, fu, c, F, n, G, hm, hc, hF, hn => by
    refine ⟨G, ?_, fun _ i hi => absurd hi (Nat.not_lt_zero _), fun _ i hi => rfl⟩
    rw [pX11_giveBy_15, gd_t (by omega), if_pos (by omega)]
    rfl
  | m + 1, fu, c, F, n, G, hm, hc, hF, hn => by
    have em : ((m + 1 : Nat) : Int) - 1 = (m : Int) := by omega
    have e8 : (c : Int) % 8 = ((c % 8 : Nat) : Int) := by omega
    have e9 : (c : Int) / 8 = ((c / 8 : Nat) : Int) := by omega
    have hlt : c % 8 < 8 := Nat.mod_lt _ (by decide)
    have k16 : (PG μ G B).2 16 = G := rfl
    have kk : ∀ v, (PG μ (va_up G m v) B).2 16 m = v := fun v => by show va_up G m v m = v; rw [vu, if_pos rfl]
    have em1 : (m : Int) + -1 = (m : Int) - 1 := by omega
    rw [show fu + (m + 1) + 1 = (fu + m + 1) + 1 from by omega, pX11_giveBy_15, em, gd_t (by omega), if_neg (by omega), gd_t (by omega), gd_t (by omega), Int.toNat_natCast, nm_v, gd_t (by omega), gd_t (by omega), k16, PG_G, kk, e8, e9, gd_t (by omega)]
    unfold pX11_giveBy_95
    have go : ∀ (F' : Nat) (n' : Int), F' < 128 → 0 ≤ n' → BB L (m + 1) 0 c F n = BB L m 0 (c / 8) F' n' → ∃ G', pX11_giveBy_15 (fu + m + 1) (PG μ (va_up G m ((c % 8 : Nat) : Int)) B) ((c / 8 : Nat) : Int) (127 - (F' : Int)) n' ((m : Int) + -1) = some (BB L (m + 1) 0 c F n, PG μ G' B) ∧ (0 ≤ BB L (m + 1) 0 c F n → ∀ i, i < m + 1 → G' i = ((dig8 (m + 1) c i : Nat) : Int)) ∧ (0 ≤ BB L (m + 1) 0 c F n → ∀ i, m + 1 ≤ i → G' i = G i) := by
      intro F' n' hF' hn' he
      obtain ⟨G', g1, g2, g3⟩ := give_l hL h5 B m fu (c / 8) F' n' (va_up G m ((c % 8 : Nat) : Int)) (by omega) (by omega) hF' hn'
      rw [em1, he]
      refine ⟨G', g1, fun hq i hi => ?_, fun hq i hi => ?_⟩
      · by_cases him : i = m
        · rw [g3 hq i (by omega), vu, if_pos him, him]
          unfold dig8
          rw [show m + 1 - 1 - m = 0 from by omega, Nat.pow_zero, Nat.div_one]
        · rw [g2 hq i (by omega)]
          unfold dig8
          rw [show m + 1 - 1 - i = (m - 1 - i) + 1 from by omega, Nat.pow_succ', Nat.div_div_eq_div_mul]
      · rw [g3 hq i (by omega), vu, if_neg (by omega)]
    have hB : BB L (m + 1) 0 c F n = if c % 8 = 7 then BB L m 0 (c / 8) F n else if (L m (c % 8) && fb F (c % 8)) = true then BB L m 0 (c / 8) (F - 2 ^ (c % 8)) (n + 1) else -1 := by
      rw [BB, Nat.zero_add]
    by_cases h7 : c % 8 = 7
    · rw [if_pos (by omega)]
      exact go F n hF hn (by rw [hB, if_pos h7])
    · rw [if_neg h7] at hB
      have hl := hL (va_up G m ((c % 8 : Nat) : Int)) B m (c % 8) (by omega) (by omega)
      rw [if_neg (by omega), gd_t (by omega), show pX11_likes (PG μ (va_up G m ((c % 8 : Nat) : Int)) B) (m : Int) ((c % 8 : Nat) : Int) = _ from hl, Option.bind_some]
      have bad : ¬ (L m (c % 8) && fb F (c % 8)) = true → ∃ G', some ((-1 : Int), PG μ (va_up G m ((c % 8 : Nat) : Int)) B) = some (BB L (m + 1) 0 c F n, PG μ G' B) ∧ (0 ≤ BB L (m + 1) 0 c F n → ∀ i, i < m + 1 → G' i = ((dig8 (m + 1) c i : Nat) : Int)) ∧ (0 ≤ BB L (m + 1) 0 c F n → ∀ i, m + 1 ≤ i → G' i = G i) := by
        intro hq
        rw [if_neg hq] at hB
        rw [hB]
        exact ⟨_, rfl, fun q => absurd q (by decide), fun q => absurd q (by decide)⟩
      by_cases h1 : L m (c % 8) = true
      · rw [if_pos h1, gd_t (by decide), if_neg (by decide), gd_t (by omega), usd_h F hF _ (by omega), Option.bind_some]
        by_cases h2 : fb F (c % 8) = true
        · rw [if_pos h2, gd_t (by decide), if_pos rfl, gd_t (by omega), usd_o F hF _ (by omega) h2]
          exact go (F - 2 ^ (c % 8)) (n + 1) (sb_lt hF _) (by omega) (by rw [hB, if_pos (by rw [h1, h2]; rfl)])
        · rw [if_neg h2, gd_t (by decide), if_neg (by decide)]
          exact bad (by simp [h2])
      · rw [if_neg h1, gd_t (by decide), if_pos rfl]
        exact bad (by simp [h1])
theorem give_m (hL : LkM μ L k) (hk : μ.1 3 = (k : Int)) (h5 : k ≤ 5) (G B : Nat → Int) {c : Nat} (hc : c < 1000000) : ∃ G', pX11_giveBy (PG μ G B) (c : Int) = some (BB L k 0 c 127 0, PG μ G' B) ∧ (0 ≤ BB L k 0 c 127 0 → ∀ i, i < k → G' i = ((dig8 k c i : Nat) : Int)) := by
  obtain ⟨G', g1, g2, -⟩ := give_l hL h5 B k (99999 - k) c 127 0 G (Nat.le_refl _) hc (by decide) (by decide)
  refine ⟨G', ?_, g2⟩
  unfold pX11_giveBy pX11_giveBy_0
  have : (PG μ G B).1 3 = (k : Int) := hk
  rw [this]
  rw [show 99999 - k + k + 1 = FU from by unfold FU; omega] at g1
  exact g1
theorem copy70 (K : St → Int → Int → Int → Int → Option (Int × St)) (G B : Nat → Int) (hk : μ.1 3 = (k : Int)) (h5 : k ≤ 5) (x1 x2 x3 x4 : Int) : ∃ B', pX11_liked_70 K FU (PG μ G B) x1 x2 x3 x4 0 = K (PG μ G B') x1 x2 x3 (x4 + 1) ∧ ∀ e, e < k → B' e = G e := by
  obtain ⟨B', m, i1, e⟩ := lp_exA (fun m i (q : Nat → Int) => pX11_liked_70 K m (PG μ G q) x1 x2 x3 x4 i) (fun c q => ∀ j, j < c → q j = G j) 0 k (Nat.zero_le _) (by omega) B (fun j h => by omega) (fun m c q hc1 hc hI => by
    refine ⟨va_up q c (G c), fun j hj => ?_, ?_⟩
    · rw [vu]
      by_cases h : j = c
      · rw [if_pos h, h]
      · rw [if_neg h]; exact hI j (by omega)
    · have k3 : (PG μ G q).1 3 = (k : Int) := hk
      have k17 : (PG μ G q).2 17 = q := rfl
      have k16 : (PG μ G q).2 16 = G := rfl
      rw [pX11_liked_70, k3, gd_t (by omega), if_neg (by omega), gd_t (by omega), gd_t (by omega), Int.toNat_natCast, nm_v, k17, k16, PG_B, cast1])
  refine ⟨B', Eq.trans e ?_, i1⟩
  have k3 : (PG μ G B').1 3 = (k : Int) := hk
  rw [pX11_liked_70, k3, gd_t (by omega), if_pos (by omega)]
  rfl
theorem pow8 (h5 : k ≤ 5) : 0 < 8 ^ k ∧ 8 ^ k ≤ 32768 := ⟨Nat.pow_pos (by decide), Nat.pow_le_pow_right (n := 8) (by decide) h5⟩
theorem codes8 (hL : LkM μ L k) (hk : μ.1 3 = (k : Int)) (h5 : k ≤ 5) (x : Int) : ∃ G B m, pX11_liked_44 FU μ x ((8 ^ k : Nat) : Int) (-1) 0 = pX11_liked_44 (m + 1) (PG μ G B) x ((8 ^ k : Nat) : Int) (VV L k 0 127) ((8 ^ k : Nat) : Int) ∧ ∀ i, i < k → B i = ((dgt L k 0 127 i : Nat) : Int) := by
  have h8 := pow8 h5
  obtain ⟨c1, c2, c3, c4⟩ := cg_ok (L := L) k 0 127 0 (by decide) (by decide)
  have hVb := VV_b (L := L) k 0 127 (by decide)
  obtain ⟨⟨b, G, B⟩, m, i1, e⟩ := lp_exA (fun m i (q : Int × (Nat → Int) × (Nat → Int)) => pX11_liked_44 m (PG μ q.2.1 q.2.2) x ((8 ^ k : Nat) : Int) q.1 i) (fun c q => (q.1 = -1 ∧ ∀ c', c' < c → BB L k 0 c' 127 0 = -1) ∨ (∃ c0, c0 < c ∧ q.1 = BB L k 0 c0 127 0 ∧ 0 ≤ q.1 ∧ (∀ i, i < k → q.2.2 i = ((dig8 k c0 i : Nat) : Int)) ∧ ∀ c', c' < c → BB L k 0 c' 127 0 ≤ BB L k 0 c0 127 0 ∧ (c' < c0 → BB L k 0 c' 127 0 < BB L k 0 c0 127 0))) 0 (8 ^ k) (Nat.zero_le _) (by omega) (-1, μ.2 16, μ.2 17) (Or.inl ⟨rfl, fun c h => absurd h (Nat.not_lt_zero _)⟩) (fun m c q _ hc hI => by
    obtain ⟨b, G, B⟩ := q
    have hlo := BB_lo (L := L) k 0 c 127 0 (Int.le_refl _)
    have hup := c3 c hc
    obtain ⟨G', g1, g2⟩ := give_m hL hk h5 G B (c := c) (by omega)
    have hbr : -1 ≤ b ∧ b ≤ 5 := by
      rcases hI with ⟨q, -⟩ | ⟨c0, q0, q1, q2, -⟩
      · have q : b = -1 := q
        omega
      · have := c3 c0 (by omega)
        have q1 : b = BB L k 0 c0 127 0 := q1
        have q2 : 0 ≤ b := q2
        omega
    show ∃ a' : Int × (Nat → Int) × (Nat → Int), _ ∧ pX11_liked_44 (m + 1) (PG μ G B) x ((8 ^ k : Nat) : Int) b (c : Int) = pX11_liked_44 m (PG μ a'.2.1 a'.2.2) x ((8 ^ k : Nat) : Int) a'.1 ((c + 1 : Nat) : Int)
    rw [pX11_liked_44, gd_t (by omega), if_neg (by omega), g1, Option.bind_some]
    simp only [nm_v]
    rw [gd_t (by omega)]
    unfold pX11_liked_99
    by_cases hle : BB L k 0 c 127 0 ≤ b
    · rw [if_pos hle]
      refine ⟨(b, G', B), ?_, by rw [cast1]⟩
      rcases hI with ⟨q, q2⟩ | ⟨c0, q0, q1, q2, q3, q4⟩
      · have q : b = -1 := q
        refine Or.inl ⟨q, fun c' hc' => ?_⟩
        by_cases h : c' = c
        · rw [h]; omega
        · exact q2 c' (by omega)
      · have q1 : b = BB L k 0 c0 127 0 := q1
        refine Or.inr ⟨c0, by omega, q1, q2, q3, fun c' hc' => ?_⟩
        by_cases h : c' = c
        · rw [h]; exact ⟨by omega, fun z => by omega⟩
        · exact q4 c' (by omega)
    · rw [if_neg hle]
      obtain ⟨B', b1, b2⟩ := copy70 (pX11_liked_44 m) G' B hk h5 x ((8 ^ k : Nat) : Int) (BB L k 0 c 127 0) (c : Int)
      rw [b1]
      refine ⟨(BB L k 0 c 127 0, G', B'), Or.inr ⟨c, by omega, rfl, by show 0 ≤ BB L k 0 c 127 0; omega, fun i hi => ?_, fun c' hc' => ?_⟩, by rw [cast1]⟩
      · show B' i = _
        rw [b2 i hi]
        exact g2 (by omega) i hi
      · by_cases h : c' = c
        · rw [h]; exact ⟨Int.le_refl _, fun z => by omega⟩
        · rcases hI with ⟨q, q2⟩ | ⟨c0, q0, q1, q2, q3, q4⟩
          · have q : b = -1 := q
            rw [q2 c' (by omega)]
            exact ⟨by omega, fun _ => by omega⟩
          · have q1 : b = BB L k 0 c0 127 0 := q1
            have := (q4 c' (by omega)).1
            exact ⟨by omega, fun _ => by omega⟩)
  have hs : PG μ (μ.2 16) (μ.2 17) = μ := by unfold PG; rw [sA_same]; exact sA_same μ 16
  have e : pX11_liked_44 FU (PG μ (μ.2 16) (μ.2 17)) x ((8 ^ k : Nat) : Int) (-1) 0 = pX11_liked_44 (m + 1) (PG μ G B) x ((8 ^ k : Nat) : Int) b ((8 ^ k : Nat) : Int) := e
  rw [hs] at e
  rcases i1 with ⟨-, q2⟩ | ⟨c0, q0, q1, q2, q3, q4⟩
  · have := q2 _ c1
    omega
  · have q1 : b = BB L k 0 c0 127 0 := q1
    have h1 := c3 c0 q0
    have h2 := q4 _ c1
    have hc : c0 = cg L k 0 127 := by
      by_cases hlt : c0 < cg L k 0 127
      · have := c4 c0 hlt
        omega
      · by_cases hgt : cg L k 0 127 < c0
        · have := h2.2 hgt
          omega
        · omega
    subst hc
    refine ⟨G, B, m, ?_, fun i hi => ?_⟩
    · rw [e, q1, c2, Int.zero_add]
    · have q3 : ∀ i, i < k → B i = ((dig8 k (cg L k 0 127) i : Nat) : Int) := q3
      rw [q3 i hi]
      unfold dig8
      rw [cg_dig k 0 127 i (by decide) hi]
end
