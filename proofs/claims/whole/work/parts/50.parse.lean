theorem sI_same (σ : St) (k : Nat) : sI σ k (σ.1 k) = σ := by
  show (va_up σ.1 k (σ.1 k), σ.2) = σ
  have : va_up σ.1 k (σ.1 k) = σ.1 := by
    funext j
    show (if j = k then σ.1 k else σ.1 j) = _
    split
    · rename_i h; rw [h]
    · rfl
  rw [this]
/-- the text, as both have it: c letters X -/
def TX_ (σ μ : St) (c : Nat) (X : Nat → Int) : Prop := (σ.1 7 = (c : Int) ∧ μ.1 5 = (c : Int) ∧ c ≤ 240) ∧ ∀ j, j < c → σ.2 5 j = X j ∧ μ.2 6 j = X j ∧ 0 ≤ X j ∧ X j ≤ 255
section
variable {σ μ : St} {c : Nat} {X : Nat → Int}
theorem letter_in (h : TX_ σ μ c X) {p : Nat} (hp : p < c) : pX9_letterAt σ (p : Int) = some (X p) := by
  obtain ⟨⟨h1, h2, h3⟩, h4⟩ := h
  unfold pX9_letterAt pX9_letterAt_0
  rw [h1]
  simp (disch := omega) only [gd_t, if_neg, Int.toNat_natCast, (h4 p hp).1]
theorem letter_out (h : TX_ σ μ c X) {p : Nat} (hp : c ≤ p) (h9 : p < 1000) : pX9_letterAt σ (p : Int) = some (-1) := by
  obtain ⟨⟨h1, h2, h3⟩, h4⟩ := h
  unfold pX9_letterAt pX9_letterAt_0
  rw [h1]
  simp (disch := omega) only [gd_t, if_neg, if_pos]
/-- where the next letter that is no blank stands, and what it is -/
theorem skip_l (c : Nat) (X : Nat → Int) : ∀ (d p m : Nat) (σ μ : St), TX_ σ μ c X → p + d = c → σ.1 8 = (p : Int) → μ.1 7 = (p : Int) → ∃ (p' : Nat) (r : Int), pX9_skipBlanks_0 (m + d + 1) σ = some (r, sI σ 8 (p' : Int)) ∧ pX11_here_0 (m + d + 1) μ = some (r, sI μ 7 (p' : Int)) ∧ p ≤ p' ∧ ((p' = c ∧ r = -1) ∨ (p' < c ∧ r = X p' ∧ 0 ≤ r ∧ r ≤ 255 ∧ r ≠ 32)) := by
  intro d
  induction d with
  | zero =>
    intro p m σ μ h hd h8 h7
    obtain ⟨⟨a1, a2, a3⟩, a4⟩ := id h
    refine ⟨p, -1, ?_, ?_, Nat.le_refl _, Or.inl ⟨by omega, rfl⟩⟩
    · rw [pX9_skipBlanks_0, h8, a1, gd_t (by omega), if_pos (by omega)]
      unfold pX9_skipBlanks_37
      rw [h8, letter_out h (by omega) (by omega), ← h8, sI_same]
      rfl
    · rw [pX11_here_0, h7, a2, gd_t (by omega), if_pos (by omega)]
      unfold pX11_here_38
      rw [h7, a2, gd_t (by omega), if_pos (by omega), ← h7, sI_same]
  | succ d ih =>
    intro p m σ μ h hd h8 h7
    obtain ⟨⟨a1, a2, a3⟩, a4⟩ := id h
    have hx := a4 p (by omega)
    by_cases hb : X p = 32
    · obtain ⟨p', r, e1, e2, e3, e4⟩ := ih (p + 1) m (sI σ 8 ((p + 1 : Nat) : Int)) (sI μ 7 ((p + 1 : Nat) : Int)) h (by omega) rfl rfl
      rw [sI_sI] at e1 e2
      refine ⟨p', r, ?_, ?_, by omega, e4⟩
      · rw [show m + (d + 1) + 1 = (m + d + 1) + 1 from by omega, pX9_skipBlanks_0, h8, a1, gd_t (by omega), if_neg (by omega), letter_in h (by omega), Option.bind_some, gd_t (by omega), if_pos hb, nm_v, cast1]
        exact e1
      · rw [show m + (d + 1) + 1 = (m + d + 1) + 1 from by omega, pX11_here_0, h7, a2, gd_t (by omega), if_neg (by omega), gd_t (by omega), Int.toNat_natCast, hx.2.1, gd_t (by omega), if_pos hb, nm_v, cast1]
        exact e2
    · refine ⟨p, X p, ?_, ?_, Nat.le_refl _, Or.inr ⟨by omega, rfl, hx.2.2.1, hx.2.2.2, hb⟩⟩
      · rw [show m + (d + 1) + 1 = (m + d + 1) + 1 from by omega, pX9_skipBlanks_0, h8, a1, gd_t (by omega), if_neg (by omega), letter_in h (by omega), Option.bind_some, gd_t (by omega), if_neg hb]
        unfold pX9_skipBlanks_37
        rw [h8, letter_in h (by omega), ← h8, sI_same]
        rfl
      · rw [show m + (d + 1) + 1 = (m + d + 1) + 1 from by omega, pX11_here_0, h7, a2, gd_t (by omega), if_neg (by omega), gd_t (by omega), Int.toNat_natCast, hx.2.1, gd_t (by omega), if_neg hb]
        unfold pX11_here_38
        rw [h7, a2, gd_t (by omega), if_neg (by omega), gd_t (by omega), Int.toNat_natCast, hx.2.1, ← h7, sI_same]
theorem skip_q (h : TX_ σ μ c X) {p : Nat} (hp : p ≤ c) (h8 : σ.1 8 = (p : Int)) (h7 : μ.1 7 = (p : Int)) : ∃ (p' : Nat) (r : Int), pX9_skipBlanks σ = some (r, sI σ 8 (p' : Int)) ∧ pX11_here μ = some (r, sI μ 7 (p' : Int)) ∧ p ≤ p' ∧ ((p' = c ∧ r = -1) ∨ (p' < c ∧ r = X p' ∧ 0 ≤ r ∧ r ≤ 255 ∧ r ≠ 32)) := by
  have := h.1.2.2
  have := skip_l c X (c - p) p (99999 - (c - p)) σ μ h (by omega) h8 h7
  rw [show 99999 - (c - p) + (c - p) + 1 = FU from by unfold FU; omega] at this
  exact this
/-- what a number's reading leaves as it is -/
def NE (σ τ : St) : Prop := (∀ k, k < 8 ∨ 10 < k → τ.1 k = σ.1 k) ∧ τ.2 = σ.2
def NM (μ ν : St) : Prop := (∀ k, k < 6 ∨ 9 < k → ν.1 k = μ.1 k) ∧ ν.2 = μ.2
theorem NE.trans {a b d : St} (h1 : NE a b) (h2 : NE b d) : NE a d := ⟨fun k hk => (h2.1 k hk).trans (h1.1 k hk), h2.2.trans h1.2⟩
theorem NM.trans {a b d : St} (h1 : NM a b) (h2 : NM b d) : NM a d := ⟨fun k hk => (h2.1 k hk).trans (h1.1 k hk), h2.2.trans h1.2⟩
theorem TX_.fr {τ ν : St} (h : TX_ σ μ c X) (h1 : NE σ τ) (h2 : NM μ ν) : TX_ τ ν c X := by
  unfold TX_
  rw [h1.1 7 (by decide), h2.1 5 (by decide), h1.2, h2.2]
  exact h
/-- a number: read well by both, or the same fault -/
def NumQ (σ μ : St) (p c : Nat) (l m : Int) (x y : Option (Int × St)) : Prop := ∃ (v f : Int) (τ ν : St), x = some (v, τ) ∧ y = some (f, ν) ∧ NE σ τ ∧ NM μ ν ∧
  ((f = 0 ∧ l ≤ v ∧ v ≤ m ∧ ν.1 8 = v ∧ τ.1 9 = σ.1 9 ∧ τ.1 10 = σ.1 10 ∧ ν.1 6 = μ.1 6 ∧ ∃ p' : Nat, τ.1 8 = (p' : Int) ∧ ν.1 7 = (p' : Int) ∧ p ≤ p' ∧ p' ≤ c) ∨
   ((f = 1 ∨ f = 2) ∧ τ.1 9 = f ∧ τ.1 10 = ν.1 6 ∧ 0 ≤ τ.1 10 ∧ τ.1 10 ≤ 240))
theorem ne_i (σ : St) (v : Int) : NE σ (sI σ 8 v) := ⟨fun k hk => by show va_up σ.1 8 v k = _; rw [vu, if_neg (by omega)], rfl⟩
theorem ne_f (σ : St) (v w : Int) : NE σ (sI (sI σ 9 v) 10 w) := ⟨fun k hk => by show va_up (va_up σ.1 9 v) 10 w k = _; rw [vu, vu, if_neg (by omega), if_neg (by omega)], rfl⟩
theorem nm_i (μ : St) {j : Nat} (hj : 6 ≤ j ∧ j ≤ 9) (v : Int) : NM μ (sI μ j v) := ⟨fun k hk => by show va_up μ.1 j v k = _; rw [vu, if_neg (by omega)], rfl⟩
theorem fig_e {x : Int} (hx : rg x) : pX9_isFigure x = some (if 48 ≤ x ∧ x ≤ 57 then 1 else 0) := by
  unfold pX9_isFigure pX9_isFigure_0
  by_cases h1 : x < 48
  · simp (disch := omega) only [gd_t, if_pos, if_neg]
  · by_cases h2 : 57 < x
    · simp (disch := omega) only [gd_t, if_pos, if_neg]
    · simp (disch := omega) only [gd_t, if_pos, if_neg]
/-- the figures: k are read, the first stands at p0 -/
theorem num_l (c : Nat) (X : Nat → Int) (l m : Int) (hl : rg l) (hm : rg m) (p0 : Nat) : ∀ (d p fu : Nat) (σ μ : St) (k : Nat) (v : Int), TX_ σ μ c X → p + d = c → p0 + k = p → 1 ≤ k → σ.1 8 = (p : Int) → μ.1 7 = (p : Int) → μ.1 9 = (p0 : Int) → 0 ≤ μ.1 8 ∧ μ.1 8 ≤ 100009 → (k ≤ 3 → μ.1 8 = v) → 0 ≤ v ∧ v ≤ 999 → (k = 1 → v ≤ 9) → (k = 2 → v ≤ 99) → ∀ x3 : Int, pX9_letterAt σ (p : Int) = some x3 →
    NumQ σ μ p0 c l m (pX9_readNumber_26 (fu + d + 1) σ l m x3 (p0 : Int) (k : Int) v) (pX11_takeNumber_42 (fu + d + 1) μ l m) := by
  have fin : ∀ (p : Nat) (σ μ : St) (k : Nat) (v : Int), TX_ σ μ c X → p ≤ c → p0 + k = p → 1 ≤ k → σ.1 8 = (p : Int) → μ.1 7 = (p : Int) → μ.1 9 = (p0 : Int) → 0 ≤ μ.1 8 ∧ μ.1 8 ≤ 100009 → (k ≤ 3 → μ.1 8 = v) → 0 ≤ v ∧ v ≤ 999 → NumQ σ μ p0 c l m (pX9_readNumber_89 σ l m (p0 : Int) (k : Int) v) (pX11_takeNumber_129 μ l m) := by
    intro p σ μ k v h hpc hk hk1 h8 h7 h9 hn hv hvb
    have h3 := h.1.2.2
    unfold NumQ pX9_readNumber_89 pX11_takeNumber_129 pX9_readNumber_120 pX11_takeNumber_157 pX9_find pX9_find_0 pX11_fails pX11_fails_0
    rw [h7, h9]
    have bad : ∃ (v' f : Int) (τ ν : St), (Option.bind (nm (sI σ 9 2) fun σ2 => nm (sI σ2 10 (p0 : Int)) fun σ7 => some σ7) fun σ124 => some (v, σ124)) = some (v', τ) ∧ (Option.bind (nm (sI μ 6 (p0 : Int)) fun σ2 => some ((2 : Int), σ2)) fun u163 => nm u163.1 fun r163 => nm u163.2 fun σ163 => some (r163, σ163)) = some (f, ν) ∧ NE σ τ ∧ NM μ ν ∧ ((f = 0 ∧ l ≤ v' ∧ v' ≤ m ∧ ν.1 8 = v' ∧ τ.1 9 = σ.1 9 ∧ τ.1 10 = σ.1 10 ∧ ν.1 6 = μ.1 6 ∧ ∃ p' : Nat, τ.1 8 = (p' : Int) ∧ ν.1 7 = (p' : Int) ∧ p0 ≤ p' ∧ p' ≤ c) ∨ ((f = 1 ∨ f = 2) ∧ τ.1 9 = f ∧ τ.1 10 = ν.1 6 ∧ 0 ≤ τ.1 10 ∧ τ.1 10 ≤ 240)) :=
      ⟨v, 2, sI (sI σ 9 2) 10 (p0 : Int), sI μ 6 (p0 : Int), rfl, rfl, ne_f σ 2 _, nm_i μ (by decide) _, Or.inr ⟨Or.inr rfl, rfl, rfl, by show (0 : Int) ≤ (p0 : Int); omega, by show (p0 : Int) ≤ 240; omega⟩⟩
    rw [gd_t (by omega), if_neg (by omega), gd_t (by omega), gd_t (by omega)]
    by_cases hk3 : 3 < k
    · rw [if_pos (by omega), if_pos (by omega)]
      exact bad
    · rw [if_neg (by omega), if_neg (by omega), within_e (by omega) hl hm, hv (by omega), in_e (by omega) hl hm, gd_t (by omega), gd_t hl, gd_t hm, Option.bind_some, Option.bind_some]
      by_cases hc : l ≤ v ∧ v ≤ m
      · rw [if_pos hc, gd_t (by decide), gd_t (by decide), if_neg (by decide), if_neg (by decide)]
        exact ⟨v, 0, σ, μ, rfl, rfl, ⟨fun _ _ => rfl, rfl⟩, ⟨fun _ _ => rfl, rfl⟩, Or.inl ⟨rfl, hc.1, hc.2, hv (by omega), rfl, rfl, rfl, p, h8, h7, by omega, hpc⟩⟩
      · rw [if_neg hc, gd_t (by decide), gd_t (by decide), if_pos rfl, if_pos rfl]
        exact bad
  intro d
  induction d with
  | zero =>
    intro p fu σ μ k v h hd hk hk1 h8 h7 h9 hn hv hvb hv1 hv2 x3 hx3
    obtain ⟨⟨a1, a2, a3⟩, a4⟩ := id h
    rw [letter_out h (by omega) (by omega)] at hx3
    cases hx3
    rw [pX9_readNumber_26, pX11_takeNumber_42, h7, a2, gd_t (show rg (p : Int) ∧ rg (c : Int) by omega), if_pos (show (c : Int) ≤ (p : Int) by omega), gd_t (by omega), fig_e (by decide), Option.bind_some]
    have := fin p σ μ k v h (by omega) hk hk1 h8 h7 h9 hn hv hvb
    by_cases hq : 240 ≤ (k : Int)
    · rw [if_pos hq]; exact this
    · rw [if_neg hq]
      exact this
  | succ d ih =>
    intro p fu σ μ k v h hd hk hk1 h8 h7 h9 hn hv hvb hv1 hv2 x3 hx3
    obtain ⟨⟨a1, a2, a3⟩, a4⟩ := id h
    have hx := a4 p (by omega)
    rw [letter_in h (by omega)] at hx3
    cases hx3
    rw [show fu + (d + 1) + 1 = (fu + d + 1) + 1 from by omega, pX9_readNumber_26, pX11_takeNumber_42, h7, a2, gd_t (show rg (p : Int) ∧ rg (c : Int) by omega), if_neg (show ¬ (c : Int) ≤ (p : Int) by omega), gd_t (show rg (k : Int) by omega), if_neg (show ¬ 240 ≤ (k : Int) by omega), fig_e (by omega), Option.bind_some, gd_t (show 0 ≤ (p : Int) ∧ (p : Int) < 240 by omega), Int.toNat_natCast, hx.2.1, gd_t (show rg (X p) by omega), in_e (by omega) (by decide) (by decide), Option.bind_some]
    by_cases hf : 48 ≤ X p ∧ X p ≤ 57
    · rw [if_pos hf, gd_t (show rg (1 : Int) by decide), gd_t (show rg (1 : Int) by decide), if_neg (show ¬ (1 : Int) = 0 by decide), if_neg (show ¬ (1 : Int) = 0 by decide)]
      unfold pX9_readNumber_62 pX11_takeNumber_113
      have step : ∀ v' w' : Int, 0 ≤ w' ∧ w' ≤ 100009 → (k + 1 ≤ 3 → w' = v') → 0 ≤ v' ∧ v' ≤ 999 → (k + 1 = 1 → v' ≤ 9) → (k + 1 = 2 → v' ≤ 99) → NumQ σ μ p0 c l m (nm (sI σ 8 (σ.1 8 + 1)) fun σ74 => Option.bind (pX9_letterAt σ74 (σ74.1 8)) fun r82 => pX9_readNumber_26 (fu + d + 1) σ74 l m r82 (p0 : Int) ((k : Int) + 1) v') (nm (sI μ 8 w') fun σ113 => nm (sI σ113 7 (σ113.1 7 + 1)) fun σ123 => pX11_takeNumber_42 (fu + d + 1) σ123 l m) := by
        intro v' w' hw hwv hv' hq1 hq2
        rw [nm_v, nm_v, nm_v]
        have z1 : (sI σ 8 (σ.1 8 + 1)).1 8 = ((p + 1 : Nat) : Int) := by show σ.1 8 + 1 = _; omega
        have z2 : (sI μ 8 w').1 7 + 1 = ((p + 1 : Nat) : Int) := by show μ.1 7 + 1 = _; omega
        rw [z1, z2, show σ.1 8 + 1 = ((p + 1 : Nat) : Int) from by omega]
        have hT2 : TX_ (sI σ 8 ((p + 1 : Nat) : Int)) (sI (sI μ 8 w') 7 ((p + 1 : Nat) : Int)) c X := h
        obtain ⟨x3, hx3⟩ : ∃ x3, pX9_letterAt (sI σ 8 ((p + 1 : Nat) : Int)) ((p + 1 : Nat) : Int) = some x3 := by
          by_cases hpc : p + 1 < c
          · exact ⟨_, letter_in hT2 hpc⟩
          · exact ⟨_, letter_out hT2 (by omega) (by omega)⟩
        rw [hx3, Option.bind_some, cast1 k]
        obtain ⟨v2, f2, τ, ν, r1, r2, r3, r4, r5⟩ := ih (p + 1) fu (sI σ 8 ((p + 1 : Nat) : Int)) (sI (sI μ 8 w') 7 ((p + 1 : Nat) : Int)) (k + 1) v' hT2 (by omega) (by omega) (by omega) rfl rfl h9 hw hwv hv' hq1 hq2 x3 hx3
        exact ⟨v2, f2, τ, ν, r1, r2, (ne_i σ _).trans r3, ((nm_i μ (j := 8) (by decide) w').trans (nm_i _ (j := 7) (by decide) _)).trans r4, r5⟩
      rw [gd_t (show rg (k : Int) by omega), gd_t (show rg (μ.1 8) by omega)]
      by_cases hk3 : 3 ≤ (k : Int)
      · rw [if_pos hk3]
        by_cases hn4 : μ.1 8 ≤ 10000
        · rw [if_pos hn4, gd_t (show 0 ≤ (p : Int) ∧ (p : Int) < 240 by omega)]
          exact step v _ (by omega) (fun q => by omega) hvb (fun q => by omega) (fun q => by omega)
        · rw [if_neg hn4]
          exact step v _ (by omega) (fun q => by omega) hvb (fun q => by omega) (fun q => by omega)
      · rw [if_neg hk3, if_pos (show μ.1 8 ≤ 10000 by have := hv (by omega); omega), gd_t (show 0 ≤ (p : Int) ∧ (p : Int) < 240 by omega)]
        have e := hv (by omega)
        refine step _ _ (by omega) (fun q => by omega) ?_ (fun q => by omega) (fun q => ?_)
        · rcases (show k = 1 ∨ k = 2 by omega) with q | q
          · have := hv1 q; omega
          · have := hv2 q; omega
        · have := hv1 (by omega); omega
    · rw [if_neg hf, gd_t (show rg (0 : Int) by decide), gd_t (show rg (0 : Int) by decide), if_pos (show (0 : Int) = 0 from rfl), if_pos (show (0 : Int) = 0 from rfl)]
      exact fin p σ μ k v h (by omega) hk hk1 h8 h7 h9 hn hv hvb
theorem num_q (h : TX_ σ μ c X) {l m : Int} (hl : rg l) (hm : rg m) {p : Nat} (hp : p ≤ c) (h8 : σ.1 8 = (p : Int)) (h7 : μ.1 7 = (p : Int)) (h9 : σ.1 9 = 0) : NumQ σ μ p c l m (pX9_readNumber σ l m) (pX11_takeNumber μ l m) := by
  obtain ⟨⟨a1, a2, a3⟩, a4⟩ := id h
  obtain ⟨p', r, e1, e2, e3, e4⟩ := skip_q h hp h8 h7
  have hT2 : TX_ (sI σ 8 (p' : Int)) (sI (sI (sI μ 7 (p' : Int)) 9 (p' : Int)) 8 0) c X := h
  have hT1 : TX_ (sI σ 8 (p' : Int)) (sI μ 7 (p' : Int)) c X := h
  unfold NumQ pX9_readNumber pX9_readNumber_0 pX11_takeNumber pX11_takeNumber_0
  rw [h9, gd_t (by decide), if_pos rfl, e1, e2, Option.bind_some, Option.bind_some]
  simp only [nm_v]
  rw [show (sI σ 8 (p' : Int)).1 8 = (p' : Int) from rfl, show (sI μ 7 (p' : Int)).1 7 = (p' : Int) from rfl]
  have hr : rg r := by rcases e4 with ⟨q1, q2⟩ | ⟨q1, q2, q3, q4, q5⟩ <;> omega
  rw [gd_t hr, in_e hr (by decide) (by decide), Option.bind_some]
  have hlet : pX9_letterAt (sI σ 8 (p' : Int)) (p' : Int) = some r := by
    rcases e4 with ⟨q1, q2⟩ | ⟨q1, q2, q3, q4, q5⟩
    · rw [q2]; exact letter_out hT1 (by omega) (by omega)
    · rw [q2]; exact letter_in hT1 q1
  by_cases hf : 48 ≤ r ∧ r ≤ 57
  · have hp' : p' < c := by rcases e4 with ⟨q1, q2⟩ | ⟨q1, q2, q3, q4, q5⟩ <;> omega
    have hX : r = X p' := by rcases e4 with ⟨q1, q2⟩ | ⟨q1, q2, q3, q4, q5⟩ <;> omega
    rw [if_pos hf, gd_t (show rg (1 : Int) by decide), if_neg (show ¬ (1 : Int) = 0 by decide), show FU = (99998 - (c - (p' + 1)) + (c - (p' + 1)) + 1) + 1 from by unfold FU; omega, pX9_readNumber_26, pX11_takeNumber_42]
    rw [show (sI (sI (sI μ 7 (p' : Int)) 9 (p' : Int)) 8 0).1 7 = (p' : Int) from rfl, show (sI (sI (sI μ 7 (p' : Int)) 9 (p' : Int)) 8 0).1 5 = (c : Int) from a2, show (sI (sI (sI μ 7 (p' : Int)) 9 (p' : Int)) 8 0).1 8 = 0 from rfl, show (sI (sI (sI μ 7 (p' : Int)) 9 (p' : Int)) 8 0).2 = μ.2 from rfl, Int.toNat_natCast, (a4 p' hp').2.1, ← hX]
    rw [gd_t (show rg (p' : Int) ∧ rg (c : Int) by omega), if_neg (show ¬ (c : Int) ≤ (p' : Int) by omega), gd_t (show 0 ≤ (p' : Int) ∧ (p' : Int) < 240 by omega), gd_t hr, in_e hr (by decide) (by decide), Option.bind_some, fig_e hr, Option.bind_some, if_pos hf, gd_t (show rg (1 : Int) by decide), gd_t (show rg (1 : Int) by decide), if_neg (show ¬ (1 : Int) = 0 by decide), if_neg (show ¬ (1 : Int) = 0 by decide), gd_t (show rg (0 : Int) by decide), gd_t (show rg (0 : Int) by decide), gd_t (show rg (0 : Int) by decide), if_neg (show ¬ (240 : Int) ≤ 0 by decide), if_neg (show ¬ (3 : Int) ≤ 0 by decide), if_pos (show (0 : Int) ≤ 10000 by decide), gd_t (show 0 ≤ (p' : Int) ∧ (p' : Int) < 240 by omega)]
    unfold pX9_readNumber_62 pX11_takeNumber_113
    rw [nm_v, nm_v, nm_v, show (sI σ 8 (p' : Int)).1 8 + 1 = ((p' + 1 : Nat) : Int) from rfl, sI_sI, sI_sI]
    rw [show (sI σ 8 ((p' + 1 : Nat) : Int)).1 8 = ((p' + 1 : Nat) : Int) from rfl, show (sI (sI (sI μ 7 (p' : Int)) 9 (p' : Int)) 8 (10 * 0 + r - 48)).1 7 + 1 = ((p' + 1 : Nat) : Int) from rfl]
    have hT3 : TX_ (sI σ 8 ((p' + 1 : Nat) : Int)) (sI (sI (sI (sI μ 7 (p' : Int)) 9 (p' : Int)) 8 (10 * 0 + r - 48)) 7 ((p' + 1 : Nat) : Int)) c X := h
    obtain ⟨x3, hx3⟩ : ∃ x3, pX9_letterAt (sI σ 8 ((p' + 1 : Nat) : Int)) ((p' + 1 : Nat) : Int) = some x3 := by
      by_cases hpc : p' + 1 < c
      · exact ⟨_, letter_in hT3 hpc⟩
      · exact ⟨_, letter_out hT3 (by omega) (by omega)⟩
    rw [hx3, Option.bind_some]
    obtain ⟨v2, f2, τ, ν, r1, r2, r3, r4, r5⟩ := num_l c X l m hl hm p' (c - (p' + 1)) (p' + 1) (99998 - (c - (p' + 1))) _ _ 1 (10 * 0 + r - 48) hT3 (by omega) rfl (Nat.le_refl _) rfl rfl rfl (by show 0 ≤ 10 * 0 + r - 48 ∧ 10 * 0 + r - 48 ≤ 100009; omega) (fun _ => rfl) (by omega) (fun _ => by omega) (fun q => by omega) x3 hx3
    refine ⟨v2, f2, τ, ν, ?_, r2, (ne_i σ _).trans r3, (((nm_i μ (j := 7) (by decide) _).trans (nm_i _ (j := 9) (by decide) _)).trans ((nm_i _ (j := 8) (by decide) _).trans (nm_i _ (j := 7) (by decide) _))).trans r4, ?_⟩
    · rw [show (0 : Int) * 10 + r - 48 = 10 * 0 + r - 48 from by omega]
      exact r1
    · rcases r5 with ⟨q1, q2, q3, q4, q5, q6, q7, pp, q8, q9, q10, q11⟩ | q
      · exact Or.inl ⟨q1, q2, q3, q4, q5.trans h9, q6, q7, pp, q8, q9, by omega, q11⟩
      · exact Or.inr q
  · have hcl : pX9_readNumber_26 FU (sI σ 8 (p' : Int)) l m r (p' : Int) 0 0 = some (0, sI (sI (sI σ 8 (p' : Int)) 9 1) 10 (p' : Int)) := by
      rw [show FU = 99999 + 1 from rfl, pX9_readNumber_26, gd_t (show rg (0 : Int) by decide), if_neg (show ¬ (240 : Int) ≤ 0 by decide), fig_e hr, Option.bind_some, if_neg hf, gd_t (show rg (0 : Int) by decide), if_pos (show (0 : Int) = 0 from rfl)]
      unfold pX9_readNumber_89 pX9_find pX9_find_0
      rw [gd_t (show rg (0 : Int) by decide), if_pos (show (0 : Int) = 0 from rfl)]
      rfl
    rw [if_neg hf, gd_t (show rg (0 : Int) by decide), if_pos (show (0 : Int) = 0 from rfl), hcl]
    refine ⟨0, 1, _, sI (sI μ 7 (p' : Int)) 6 (p' : Int), rfl, rfl, (ne_i σ _).trans (ne_f _ _ _), (nm_i μ (j := 7) (by decide) _).trans (nm_i _ (j := 6) (by decide) _), Or.inr ⟨Or.inl rfl, rfl, rfl, by show (0 : Int) ≤ (p' : Int); omega, by show (p' : Int) ≤ 240; rcases e4 with ⟨q1, q2⟩ | ⟨q1, q2, q3, q4, q5⟩ <;> omega⟩⟩
theorem num_bad (h9 : ¬ σ.1 9 = 0) (hr : rg (σ.1 9)) (l m : Int) : pX9_readNumber σ l m = some (0, σ) := by
  unfold pX9_readNumber pX9_readNumber_0
  rw [gd_t hr, if_neg h9]
theorem semi_bad (h9 : ¬ σ.1 9 = 0) (hr : rg (σ.1 9)) : pX9_readSemicolon σ = some σ := by
  unfold pX9_readSemicolon pX9_readSemicolon_0
  rw [gd_t hr, if_neg h9]
/-- the clause's end: class, and reference behind a good clause -/
theorem semi_q (h : TX_ σ μ c X) {p : Nat} (hp : p ≤ c) (h8 : σ.1 8 = (p : Int)) (h7 : μ.1 7 = (p : Int)) (h9 : σ.1 9 = 0) : ∃ (f : Int) (τ ν : St), pX9_readSemicolon σ = some τ ∧ pX11_takeClause_172 μ 0 = some (f, ν) ∧ NE σ τ ∧ NM μ ν ∧
    ((f = 0 ∧ τ.1 9 = 0 ∧ τ.1 10 = σ.1 10 ∧ ν.1 6 = μ.1 6 ∧ ∃ p' : Nat, τ.1 8 = (p' : Int) ∧ ν.1 7 = (p' : Int) ∧ p < p' ∧ p' ≤ c) ∨ (f = 1 ∧ τ.1 9 = f ∧ τ.1 10 = ν.1 6 ∧ 0 ≤ τ.1 10 ∧ τ.1 10 ≤ 240)) := by
  obtain ⟨⟨a1, a2, a3⟩, a4⟩ := id h
  obtain ⟨p', r, e1, e2, e3, e4⟩ := skip_q h hp h8 h7
  unfold pX9_readSemicolon pX9_readSemicolon_0 pX11_takeClause_172 pX11_takeClause_198 pX9_find pX9_find_0 pX11_fails pX11_fails_0
  have hr : rg r := by rcases e4 with ⟨q1, q2⟩ | ⟨q1, q2, q3, q4, q5⟩ <;> omega
  rw [h9, gd_t (show rg (0 : Int) by decide), gd_t (show rg (0 : Int) by decide), if_pos (show (0 : Int) = 0 from rfl), if_pos (show (0 : Int) = 0 from rfl), e1, e2, Option.bind_some, Option.bind_some]
  simp only [nm_v]
  rw [gd_t hr, gd_t hr]
  by_cases hs : r = 59
  · rw [if_pos hs, if_pos hs]
    refine ⟨0, _, _, rfl, rfl, (ne_i σ _).trans (ne_i _ _), (nm_i μ (j := 7) (by decide) _).trans (nm_i _ (j := 7) (by decide) _), Or.inl ⟨rfl, h9, rfl, rfl, p' + 1, rfl, rfl, by omega, ?_⟩⟩
    rcases e4 with ⟨q1, q2⟩ | ⟨q1, q2, q3, q4, q5⟩ <;> omega
  · rw [if_neg hs, if_neg hs]
    refine ⟨1, _, _, rfl, rfl, (ne_i σ _).trans (ne_f _ _ _), (nm_i μ (j := 7) (by decide) _).trans (nm_i _ (j := 6) (by decide) _), Or.inr ⟨rfl, rfl, rfl, by show (0 : Int) ≤ (p' : Int); omega, by show (p' : Int) ≤ 240; rcases e4 with ⟨q1, q2⟩ | ⟨q1, q2, q3, q4, q5⟩ <;> omega⟩⟩
end
