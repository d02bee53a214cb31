/-- an egg a minute later -/
def bst (L : Int) (st bo : Nat → Int) (e : Nat) : Int := if st e = 1 then (if bo e + 1 ≤ L then 1 else 5) else st e
def bbo (st bo : Nat → Int) (e : Nat) : Int := if st e = 1 then bo e + 1 else bo e
theorem bst_b {L : Int} {st bo : Nat → Int} {e : Nat} (h : 0 ≤ st e ∧ st e ≤ 5) : 0 ≤ bst L st bo e ∧ bst L st bo e ≤ 5 := by
  unfold bst
  split
  · split <;> decide
  · exact h
theorem bst_3 {L : Int} {st bo : Nat → Int} {e : Nat} : bst L st bo e = 3 ↔ st e = 3 := by
  unfold bst
  split
  · rename_i h
    split <;> omega
  · exact Iff.rfl
theorem bbo_b {st bo : Nat → Int} {e : Nat} {m : Int} (h : 0 ≤ bo e ∧ bo e ≤ m) : 0 ≤ bbo st bo e ∧ bbo st bo e ≤ m + 1 := by
  unfold bbo
  split <;> omega
theorem bst_c {L L' : Int} {st st' bo bo' : Nat → Int} {e : Nat} (h1 : L = L') (h2 : st e = st' e) (h3 : bo e = bo' e) : bst L st bo e = bst L' st' bo' e := by
  unfold bst
  rw [h1, h2, h3]
theorem bbo_c {st st' bo bo' : Nat → Int} {e : Nat} (h2 : st e = st' e) (h3 : bo e = bo' e) : bbo st bo e = bbo st' bo' e := by
  unfold bbo
  rw [h2, h3]
section
variable {σ μ : St} {n : Nat}
theorem stateOf_x {τ : St} (hn : τ.1 5 = (n : Int)) (h7 : n ≤ 7) {e : Nat} (he : e < n) : pX4_stateOf τ (e : Int) = some (τ.2 11 e) := by
  unfold pX4_stateOf pX4_stateOf_0
  rw [hasEgg_e hn h7 (by omega), if_pos (by omega)]
  simp (disch := omega) only [gd_t, if_neg, Option.bind_some, Int.toNat_natCast]
theorem stateOf_y {τ : St} (hn : τ.1 5 = (n : Int)) (h7 : n ≤ 7) {e : Nat} (he : n ≤ e) (h9 : e < 1000) : pX4_stateOf τ (e : Int) = some (-1) := by
  unfold pX4_stateOf pX4_stateOf_0
  rw [hasEgg_e hn h7 (by omega), if_neg (by omega)]
  simp (disch := omega) only [gd_t, if_pos, Option.bind_some, ite_true]
theorem two_A (σ : St) (s b s' b' : Nat → Int) : sA (sA (sA (sA σ 11 s) 12 b) 12 b') 11 s' = sA (sA σ 11 s') 12 b' := by
  rw [sA_sA]
  show (σ.1, va_up (va_up (va_up σ.2 11 s) 12 b') 11 s') = (σ.1, va_up (va_up σ.2 11 s') 12 b')
  congr 1
  funext j
  show (if j = 11 then s' else if j = 12 then b' else if j = 11 then s else σ.2 j) = (if j = 12 then b' else if j = 11 then s' else σ.2 j)
  by_cases h1 : j = 11
  · rw [if_pos h1, if_neg (by omega), if_pos h1]
  · rw [if_neg h1, if_neg h1, if_neg h1]
theorem boil_e (hn : σ.1 5 = (n : Int)) (h7 : n ≤ 7) (hL : rg (σ.1 4)) (hst : ∀ e, e < n → rg (σ.2 11 e)) (hbo : ∀ e, e < n → 0 ≤ σ.2 12 e ∧ σ.2 12 e ≤ 9060) : ∃ s b m, pX4_passMinute_12 FU σ 0 = pX4_passMinute_12 (m + 1) (sA (sA σ 11 s) 12 b) 7 ∧ ∀ e, e < n → s e = bst (σ.1 4) (σ.2 11) (σ.2 12) e ∧ b e = bbo (σ.2 11) (σ.2 12) e := by
  obtain ⟨⟨s, b⟩, m, hI, e⟩ := lp_exA (fun m i (b : (Nat → Int) × (Nat → Int)) => pX4_passMinute_12 m (sA (sA σ 11 b.1) 12 b.2) i) (fun k q => ∀ e, e < n → (e < k → q.1 e = bst (σ.1 4) (σ.2 11) (σ.2 12) e ∧ q.2 e = bbo (σ.2 11) (σ.2 12) e) ∧ (k ≤ e → q.1 e = σ.2 11 e ∧ q.2 e = σ.2 12 e)) 0 7 (by decide) (by decide) (σ.2 11, σ.2 12) (fun e he => ⟨fun h => by omega, fun _ => ⟨rfl, rfl⟩⟩) (fun m k q hk1 hk hI => by
    have hn' : (sA (sA σ 11 q.1) 12 q.2).1 5 = (n : Int) := hn
    rw [pX4_passMinute_12, gd_t (by omega), if_neg (by omega)]
    unfold pX4_passMinute_32
    by_cases hkn : k < n
    · have hq := (hI k hkn).2 (Nat.le_refl _)
      have hq1 : (sA (sA σ 11 q.1) 12 q.2).2 11 k = σ.2 11 k := hq.1
      have hb := hbo k hkn
      rw [stateOf_x hn' h7 hkn, hq1, Option.bind_some, gd_t (hst k hkn)]
      by_cases h1 : σ.2 11 k = 1
      · have e2 : (sA (sA σ 11 q.1) 12 q.2).2 12 k = σ.2 12 k := hq.2
        have eB : pX4_boilOneMore (sA (sA σ 11 q.1) 12 q.2) (k : Int) = some (sA (sA σ 11 (va_up q.1 k (bst (σ.1 4) (σ.2 11) (σ.2 12) k))) 12 (va_up q.2 k (bbo (σ.2 11) (σ.2 12) k))) := by
          unfold pX4_boilOneMore pX4_boilOneMore_0 pX4_boilOneMore_47
          rw [hasEgg_e hn' h7 (by omega), if_pos (by omega), Option.bind_some, gd_t (by decide), if_neg (by decide), gd_t (by omega), gd_t (by omega), Int.toNat_natCast, e2]
          simp only [nm]
          have e3 : (sA (sA (sA σ 11 q.1) 12 q.2) 12 (va_up ((sA (sA σ 11 q.1) 12 q.2).2 12) k (σ.2 12 k + 1))).2 12 k = σ.2 12 k + 1 := by
            show va_up _ k (σ.2 12 k + 1) k = _
            rw [vu, if_pos rfl]
          have e4 : (sA (sA (sA σ 11 q.1) 12 q.2) 12 (va_up ((sA (sA σ 11 q.1) 12 q.2).2 12) k (σ.2 12 k + 1))).1 4 = σ.1 4 := rfl
          rw [gd_t (by omega), e3, e4, gd_t ⟨by omega, hL⟩, gd_t (by omega), gd_t (by omega)]
          have hbb : bbo (σ.2 11) (σ.2 12) k = σ.2 12 k + 1 := by unfold bbo; rw [if_pos h1]
          have e5 : ∀ v : Int, (sA (sA (sA (sA σ 11 q.1) 12 q.2) 12 (va_up ((sA (sA σ 11 q.1) 12 q.2).2 12) k (σ.2 12 k + 1))) 11 (va_up ((sA (sA (sA σ 11 q.1) 12 q.2) 12 (va_up ((sA (sA σ 11 q.1) 12 q.2).2 12) k (σ.2 12 k + 1))).2 11) k v)) = sA (sA σ 11 (va_up q.1 k v)) 12 (va_up q.2 k (σ.2 12 k + 1)) := fun v => by
            rw [two_A]; rfl
          rw [e5, e5, hbb]
          by_cases hc : σ.2 12 k + 1 ≤ σ.1 4
          · rw [if_pos hc, show bst (σ.1 4) (σ.2 11) (σ.2 12) k = 1 from by unfold bst; rw [if_pos h1, if_pos hc]]
          · rw [if_neg hc, show bst (σ.1 4) (σ.2 11) (σ.2 12) k = 5 from by unfold bst; rw [if_pos h1, if_neg hc]]
        rw [if_pos h1, eB, Option.bind_some]
        refine ⟨(va_up q.1 k (bst (σ.1 4) (σ.2 11) (σ.2 12) k), va_up q.2 k (bbo (σ.2 11) (σ.2 12) k)), fun e he => ⟨fun hek => ?_, fun hek => ?_⟩, rfl⟩
        · dsimp only
          rw [vu, vu]
          by_cases hh : e = k
          · rw [if_pos hh, if_pos hh, hh]; exact ⟨rfl, rfl⟩
          · rw [if_neg hh, if_neg hh]; exact (hI e he).1 (by omega)
        · dsimp only
          rw [vu, vu, if_neg (by omega), if_neg (by omega)]; exact (hI e he).2 (by omega)
      · rw [if_neg h1]
        refine ⟨q, fun e he => ⟨fun hek => ?_, fun hek => (hI e he).2 (by omega)⟩, rfl⟩
        by_cases hh : e = k
        · subst hh
          rw [hq.1, hq.2]
          unfold bst bbo
          rw [if_neg h1, if_neg h1]
          exact ⟨rfl, rfl⟩
        · exact (hI e he).1 (by omega)
    · rw [stateOf_y hn' h7 (by omega) (by omega), Option.bind_some, gd_t (by decide), if_neg (by decide)]
      exact ⟨q, fun e he => ⟨fun hek => (hI e he).1 (by omega), fun hek => by omega⟩, rfl⟩)
  rw [sA_same, sA_same] at e
  exact ⟨s, b, m, e, fun e he => (hI e he).1 (by omega)⟩
theorem boil_m (hn : μ.1 2 = (n : Int)) (h7 : n ≤ 7) (hL : rg (μ.1 1)) (hst : ∀ e, e < n → rg (μ.2 5 e)) (hbo : ∀ e, e < n → 0 ≤ μ.2 5 (7 + e) ∧ μ.2 5 (7 + e) ≤ 9060) : ∃ w m, pX11_pass_2 FU μ 0 = pX11_pass_2 (m + 1) (sA μ 5 w) (n : Int) ∧ (∀ e, e < n → w e = bst (μ.1 1) (μ.2 5) (fun e => μ.2 5 (7 + e)) e ∧ w (7 + e) = bbo (μ.2 5) (fun e => μ.2 5 (7 + e)) e) ∧ ∀ j, 14 ≤ j → w j = μ.2 5 j := by
  obtain ⟨w, m, ⟨hI, hJ⟩, e⟩ := lp_exA (fun m i (b : Nat → Int) => pX11_pass_2 m (sA μ 5 b) i) (fun k q => (∀ e, e < n → (e < k → q e = bst (μ.1 1) (μ.2 5) (fun e => μ.2 5 (7 + e)) e ∧ q (7 + e) = bbo (μ.2 5) (fun e => μ.2 5 (7 + e)) e) ∧ (k ≤ e → q e = μ.2 5 e ∧ q (7 + e) = μ.2 5 (7 + e))) ∧ ∀ j, 14 ≤ j → q j = μ.2 5 j) 0 n (by omega) (by omega) (μ.2 5) ⟨fun e he => ⟨fun h => by omega, fun _ => ⟨rfl, rfl⟩⟩, fun _ _ => rfl⟩ (fun m k q hk1 hk hI => by
    obtain ⟨hI, hJ⟩ := hI
    have e7 : Int.toNat (7 + (k : Int)) = 7 + k := by omega
    have hq := (hI k hk).2 (Nat.le_refl _)
    have hb := hbo k hk
    have hs := hst k hk
    have e1 : (sA μ 5 q).2 5 k = μ.2 5 k := hq.1
    have e2 : (sA μ 5 q).2 5 (7 + k) = μ.2 5 (7 + k) := hq.2
    rw [pX11_pass_2, sA_1, hn, gd_t (by omega), if_neg (by omega), gd_t (by omega), Int.toNat_natCast, e1, gd_t hs]
    unfold pX11_pass_59 pX11_pass_60
    by_cases h1 : μ.2 5 k = 1
    · rw [if_pos h1, gd_t (by omega), gd_t (by omega), e7, e2]
      simp only [nm]
      have e3 : (sA (sA μ 5 q) 5 (va_up ((sA μ 5 q).2 5) (7 + k) (μ.2 5 (7 + k) + 1))).2 5 (7 + k) = μ.2 5 (7 + k) + 1 := by
        show va_up _ (7 + k) (μ.2 5 (7 + k) + 1) (7 + k) = _
        rw [vu, if_pos rfl]
      have e4 : (sA (sA μ 5 q) 5 (va_up ((sA μ 5 q).2 5) (7 + k) (μ.2 5 (7 + k) + 1))).1 1 = μ.1 1 := rfl
      rw [gd_t (by omega), e3, e4, gd_t ⟨by omega, hL⟩, gd_t (by omega), gd_t (by omega)]
      have hbb : bbo (μ.2 5) (fun e => μ.2 5 (7 + e)) k = μ.2 5 (7 + k) + 1 := by unfold bbo; rw [if_pos h1]
      have e5 : ∀ v : Int, (sA (sA (sA μ 5 q) 5 (va_up ((sA μ 5 q).2 5) (7 + k) (μ.2 5 (7 + k) + 1))) 5 (va_up ((sA (sA μ 5 q) 5 (va_up ((sA μ 5 q).2 5) (7 + k) (μ.2 5 (7 + k) + 1))).2 5) k v)) = sA μ 5 (va_up (va_up q (7 + k) (bbo (μ.2 5) (fun e => μ.2 5 (7 + e)) k)) k v) := fun v => by
        rw [sA_sA, sA_sA, hbb]; rfl
      have fin : ∀ v : Int, v = bst (μ.1 1) (μ.2 5) (fun e => μ.2 5 (7 + e)) k → ∃ a', ((∀ e, e < n → (e < k + 1 → a' e = bst (μ.1 1) (μ.2 5) (fun e => μ.2 5 (7 + e)) e ∧ a' (7 + e) = bbo (μ.2 5) (fun e => μ.2 5 (7 + e)) e) ∧ (k + 1 ≤ e → a' e = μ.2 5 e ∧ a' (7 + e) = μ.2 5 (7 + e))) ∧ ∀ j, 14 ≤ j → a' j = μ.2 5 j) ∧ pX11_pass_2 m (sA μ 5 (va_up (va_up q (7 + k) (bbo (μ.2 5) (fun e => μ.2 5 (7 + e)) k)) k v)) ((k : Int) + 1) = pX11_pass_2 m (sA μ 5 a') ((k + 1 : Nat) : Int) := by
        intro v hv
        refine ⟨va_up (va_up q (7 + k) (bbo (μ.2 5) (fun e => μ.2 5 (7 + e)) k)) k v, ⟨fun e he => ⟨fun hek => ?_, fun hek => ?_⟩, fun j hj => ?_⟩, rfl⟩
        · rw [vu, vu, vu, vu, if_neg (show ¬ e = 7 + k by omega), if_neg (show ¬ 7 + e = k by omega)]
          by_cases hh : e = k
          · rw [if_pos hh, if_pos (by omega), hh]; exact ⟨hv, rfl⟩
          · rw [if_neg hh, if_neg (by omega)]; exact (hI e he).1 (by omega)
        · rw [vu, vu, vu, vu, if_neg (by omega), if_neg (by omega), if_neg (by omega), if_neg (by omega)]; exact (hI e he).2 (by omega)
        · rw [vu, vu, if_neg (by omega), if_neg (by omega)]; exact hJ j hj
      rw [Int.toNat_natCast, e5, e5]
      by_cases hc : μ.2 5 (7 + k) + 1 ≤ μ.1 1
      · rw [if_pos hc]
        exact fin 1 (by unfold bst; rw [if_pos h1, if_pos hc])
      · rw [if_neg hc]
        exact fin 5 (by unfold bst; rw [if_pos h1, if_neg hc])
    · rw [if_neg h1]
      refine ⟨q, ⟨fun e he => ⟨fun hek => ?_, fun hek => (hI e he).2 (by omega)⟩, hJ⟩, rfl⟩
      by_cases hh : e = k
      · subst hh
        rw [hq.1, hq.2]
        unfold bst bbo
        rw [if_neg h1, if_neg h1]
        exact ⟨rfl, rfl⟩
      · exact (hI e he).1 (by omega))
  rw [sA_same] at e
  exact ⟨w, m, e, fun e he => (hI e he).1 (by omega), hJ⟩
theorem endReign_e {τ : St} (hn : τ.1 5 = (n : Int)) (h7 : n ≤ 7) {k : Nat} (hk : k < n) (hk2 : τ.1 16 = (k : Int)) (v : Int) : pX4_endReign τ v = some (sI (sI (sA τ 11 (va_up (τ.2 11) k v)) 16 (-1)) 17 0) := by
  unfold pX4_endReign pX4_endReign_0
  rw [hk2, setState_e hn h7 hk]
  rfl
theorem kingE_c {τ : St} (hn : τ.1 5 = (n : Int)) (h7 : n ≤ 7) {k : Nat} (hk : k < n) (hk2 : τ.1 16 = (k : Int)) (h18 : 0 ≤ τ.1 18 ∧ τ.1 18 < 2) : pX4_passMinuteOfKing τ = some (sI (sI (sA τ 11 (va_up (τ.2 11) k 0)) 16 (-1)) 17 0) := by
  unfold pX4_passMinuteOfKing pX4_passMinuteOfKing_0
  rw [gd_t (by omega), if_neg (by omega), endReign_e hn h7 hk hk2]
  rfl
theorem kingE_a {τ : St} (h18 : 2 ≤ τ.1 18 ∧ τ.1 18 ≤ 999) (h17 : 2 ≤ τ.1 17 ∧ τ.1 17 ≤ 100) : pX4_passMinuteOfKing τ = some (sI (sI (sI τ 18 (τ.1 18 - 2)) 20 (τ.1 20 + 1)) 17 (τ.1 17 - 1)) := by
  unfold pX4_passMinuteOfKing pX4_passMinuteOfKing_0
  rw [gd_t (by omega), if_pos (by omega)]
  simp (disch := omega) only [nm, sI_1, if_neg, if_pos, gd_t, ite_true]
theorem kingE_b {τ : St} (hn : τ.1 5 = (n : Int)) (h7 : n ≤ 7) {k : Nat} (hk : k < n) (hk2 : τ.1 16 = (k : Int)) (h18 : 2 ≤ τ.1 18 ∧ τ.1 18 ≤ 999) (h17 : τ.1 17 = 1) : pX4_passMinuteOfKing τ = some (sI (sI (sA (sI (sI (sI (sI τ 18 (τ.1 18 - 2)) 20 (τ.1 20 + 1)) 17 (τ.1 17 - 1)) 21 (τ.1 21 + 1)) 11 (va_up (τ.2 11) k 4)) 16 (-1)) 17 0) := by
  unfold pX4_passMinuteOfKing pX4_passMinuteOfKing_0
  rw [gd_t (by omega), if_pos (by omega)]
  simp (disch := omega) only [nm, sI_1, if_neg, if_pos, gd_t, ite_true]
  rw [endReign_e (τ := sI (sI (sI (sI τ 18 (τ.1 18 - 2)) 20 (τ.1 20 + 1)) 17 (τ.1 17 - 1)) 21 (τ.1 21 + 1)) hn h7 hk hk2]
  rfl
theorem kingM_n {ν : St} (hn : ν.1 2 = (n : Int)) (h7 : n ≤ 7) (hk : pX11_king ν = some (-1)) (m : Nat) : pX11_pass_2 (m + 1) ν (n : Int) = some (sA ν 5 (va_up (ν.2 5) 16 (ν.2 5 16 + 1))) := by
  rw [pX11_pass_2, hn, gd_t (by omega), if_pos (by omega), hk, Option.bind_some, gd_t (by decide), if_pos (by decide)]
  unfold pX11_pass_168 pX11_pass_187
  rw [gd_t (by decide), if_pos (by decide), nm_v]
theorem kingM_c {ν : St} (hn : ν.1 2 = (n : Int)) (h7 : n ≤ 7) {k : Nat} (hkn : k < n) (hk : pX11_king ν = some (k : Int)) (h14 : 0 ≤ ν.2 5 14 ∧ ν.2 5 14 < 2) (m : Nat) : pX11_pass_2 (m + 1) ν (n : Int) = some (sA ν 5 (va_up (va_up (va_up (ν.2 5) k 0) 15 0) 16 (ν.2 5 16 + 1))) := by
  rw [pX11_pass_2, hn, gd_t (by omega), if_pos (by omega), hk, Option.bind_some, gd_t (by omega), if_neg (by omega), gd_t (by omega), if_pos (by omega)]
  unfold pX11_pass_168 pX11_pass_187
  rw [gd_t (by omega), if_neg (by omega), gd_t (by omega), Int.toNat_natCast]
  simp (disch := omega) only [nm, sA_2, sA_sA, ite_true, vu, if_neg]
theorem kingM_a {ν : St} (hn : ν.1 2 = (n : Int)) (h7 : n ≤ 7) {k : Nat} (hkn : k < n) (hk : pX11_king ν = some (k : Int)) (h14 : 2 ≤ ν.2 5 14 ∧ ν.2 5 14 ≤ 999) (h15 : 2 ≤ ν.2 5 15 ∧ ν.2 5 15 ≤ 100) (m : Nat) : pX11_pass_2 (m + 1) ν (n : Int) = some (sA ν 5 (va_up (va_up (va_up (va_up (va_up (va_up (ν.2 5) 14 (ν.2 5 14 - 2)) 15 (ν.2 5 15 - 1)) 17 (ν.2 5 17 + 1)) 18 (ν.2 5 18 + 0)) k 3) 16 (ν.2 5 16 + 1))) := by
  rw [pX11_pass_2, hn, gd_t (by omega), if_pos (by omega), hk, Option.bind_some, gd_t (by omega), if_neg (by omega), gd_t (by omega), if_neg (by omega)]
  unfold pX11_pass_142 pX11_pass_164 pX11_pass_187
  have e18 : Int.toNat 18 = 18 := rfl
  simp (disch := omega) only [nm, sA_2, sA_sA, ite_true, vu, if_neg, if_pos, gd_t, Int.toNat_natCast, e18]
theorem kingM_b {ν : St} (hn : ν.1 2 = (n : Int)) (h7 : n ≤ 7) {k : Nat} (hkn : k < n) (hk : pX11_king ν = some (k : Int)) (h14 : 2 ≤ ν.2 5 14 ∧ ν.2 5 14 ≤ 999) (h15 : ν.2 5 15 = 1) (m : Nat) : pX11_pass_2 (m + 1) ν (n : Int) = some (sA ν 5 (va_up (va_up (va_up (va_up (va_up (va_up (ν.2 5) 14 (ν.2 5 14 - 2)) 15 (ν.2 5 15 - 1)) 17 (ν.2 5 17 + 1)) 18 (ν.2 5 18 + 1)) k 4) 16 (ν.2 5 16 + 1))) := by
  rw [pX11_pass_2, hn, gd_t (by omega), if_pos (by omega), hk, Option.bind_some, gd_t (by omega), if_neg (by omega), gd_t (by omega), if_neg (by omega)]
  unfold pX11_pass_142 pX11_pass_164 pX11_pass_187
  have e18 : Int.toNat 18 = 18 := rfl
  simp (disch := omega) only [nm, sA_2, sA_sA, ite_true, vu, if_neg, if_pos, gd_t, Int.toNat_natCast, e18]
theorem pass_q (h : Rel σ μ) (hm : σ.1 19 ≤ 9059) : ∃ τ ν, pX4_passMinute σ = some τ ∧ pX11_pass μ = some ν ∧ Rel τ ν ∧ τ.1 19 = σ.1 19 + 1 := by
  obtain ⟨n, hV, hE, hM⟩ := h.vw
  have h7 := hV.1
  have hn := hE.1
  obtain ⟨hT, hX, hF, ⟨n1, n2, n3, n4, n5, n6, n8⟩, hP, hI, hC, hB⟩ := id h
  have t2 := hT.2.1
  have t6 := hT.2.2.2.2.2.1
  obtain ⟨s, b, m, e1, q1⟩ := boil_e (σ := sI σ 19 (σ.1 19 + 1)) (n := n) hn h7 (show rg (σ.1 4) by omega) (fun e he => show rg (σ.2 11 e) by have := n1 e (by omega); omega) (fun e he => show 0 ≤ σ.2 12 e ∧ σ.2 12 e ≤ 9060 by have := n1 e (by omega); omega)
  obtain ⟨w, m', e2, q2, q3⟩ := boil_m hM.1 h7 (show rg (μ.1 1) by omega) (fun e he => by have := n1 e (by omega); omega) (fun e he => by have := n1 e (by omega); omega)
  have q1 : ∀ e, e < n → s e = bst (σ.1 4) (σ.2 11) (σ.2 12) e ∧ b e = bbo (σ.2 11) (σ.2 12) e := q1
  have q2 : ∀ e, e < n → w e = bst (σ.1 4) (σ.2 11) (σ.2 12) e ∧ w (7 + e) = bbo (σ.2 11) (σ.2 12) e := fun e he => by
    have p := q2 e he
    have r := n1 e (by omega)
    exact ⟨p.1.trans (bst_c t2.symm r.1.1.symm r.2.1.symm), p.2.trans (bbo_c r.1.1.symm r.2.1.symm)⟩
  have f1 : ∀ e : Nat, (e : Int) < σ.1 5 → (s e = w e ∧ 0 ≤ s e ∧ s e ≤ 5) ∧ (b e = w (7 + e) ∧ 0 ≤ b e ∧ b e ≤ σ.1 19 + 1) := fun e he => by
    have r := n1 e he
    have a1 := q1 e (by omega)
    have a2 := q2 e (by omega)
    rw [a1.1, a1.2, a2.1, a2.2]
    exact ⟨⟨rfl, bst_b r.1.2⟩, ⟨rfl, bbo_b r.2.2⟩⟩
  have f3 : ∀ e : Nat, (e : Int) < σ.1 5 → (s e = 3 ↔ σ.2 11 e = 3) := fun e he => by
    rw [(q1 e (by omega)).1]; exact bst_3
  have w14 := q3 14 (by decide)
  have w15 := q3 15 (by decide)
  have w16 := q3 16 (by decide)
  have w17 := q3 17 (by decide)
  have w18 := q3 18 (by decide)
  have hV' : Vw n (σ.2 0) (σ.2 1) w (fun e => w (7 + e)) := ⟨h7, fun e he => by
    have := hV.2 e he
    have p := f1 e (by omega)
    dsimp only
    omega⟩
  have hM' : VM (sA μ 5 w) n (σ.2 0) (σ.2 1) w (fun e => w (7 + e)) := ⟨hM.1, fun e he => ⟨(hM.2 e he).1, (hM.2 e he).2.1, rfl, rfl⟩⟩
  have hkr : rg (σ.1 16) := by rcases n8 with ⟨q, -⟩ | ⟨k, q, q', -⟩ <;> omega
  generalize hτ : sA (sA (sI σ 19 (σ.1 19 + 1)) 11 s) 12 b = τ at e1
  have g16 : τ.1 16 = σ.1 16 := by rw [← hτ]; rfl
  have g17 : τ.1 17 = σ.1 17 := by rw [← hτ]; rfl
  have g18 : τ.1 18 = σ.1 18 := by rw [← hτ]; rfl
  have g20 : τ.1 20 = σ.1 20 := by rw [← hτ]; rfl
  have g21 : τ.1 21 = σ.1 21 := by rw [← hτ]; rfl
  have g11 : τ.2 11 = s := by rw [← hτ]; rfl
  have gn : τ.1 5 = (n : Int) := by rw [← hτ]; exact hn
  have eP : pX4_passMinute σ = if σ.1 16 = -1 then some τ else pX4_passMinuteOfKing τ := by
    unfold pX4_passMinute pX4_passMinute_0
    rw [nm_v, e1, pX4_passMinute_12, gd_t (by decide), if_pos (by decide), g16, gd_t hkr]
    by_cases hk : σ.1 16 = -1
    · rw [if_pos hk, if_pos hk]
    · rw [if_neg hk, if_neg hk]
      cases pX4_passMinuteOfKing τ <;> rfl
  have eM : pX11_pass μ = pX11_pass_2 (m' + 1) (sA μ 5 w) (n : Int) := e2
  have z5 : (sA μ 5 w).2 5 = w := rfl
  rcases n8 with ⟨k1, k2, k3⟩ | ⟨k, k1, k2, k3, k4, k5⟩
  · have eK : pX11_king (sA μ 5 w) = some (-1) := king_n hV' hM' (fun e he q => k2 e (by omega) ((f3 e (by omega)).mp (by rw [(f1 e (by omega)).1.1]; exact q)))
    have eM2 := kingM_n (ν := sA μ 5 w) hM.1 h7 eK m'
    rw [sA_sA, z5, ← eM] at eM2
    refine ⟨τ, _, by rw [eP, if_pos k1], eM2, ?_, by rw [← hτ]; rfl⟩
    rw [← hτ]
    refine ⟨hT, hX, hF, ⟨fun i hi => ?_, ?_, ?_, ?_, ?_, ?_, Or.inl ⟨k1, fun i hi (q : s i = 3) => k2 i hi ((f3 i hi).mp q), k3⟩⟩, hP, hI, hC, hB⟩
    · have hi : (i : Int) < σ.1 5 := hi
      have p := f1 i hi
      show (s i = va_up w 16 (w 16 + 1) i ∧ _) ∧ (b i = va_up w 16 (w 16 + 1) (7 + i) ∧ _)
      rw [vu, vu, if_neg (by omega), if_neg (by omega)]
      exact p
    · show σ.1 18 = va_up w 16 (w 16 + 1) 14 ∧ _
      rw [vu, if_neg (by decide), w14]; exact n2
    · show σ.1 17 = va_up w 16 (w 16 + 1) 15 ∧ _
      rw [vu, if_neg (by decide), w15]; exact n3
    · show σ.1 19 + 1 = va_up w 16 (w 16 + 1) 16 ∧ 0 ≤ σ.1 19 + 1 ∧ σ.1 19 + 1 ≤ 9060
      rw [vu, if_pos rfl, w16]; omega
    · show σ.1 20 = va_up w 16 (w 16 + 1) 17 ∧ 0 ≤ σ.1 20 ∧ σ.1 20 ≤ σ.1 19 + 1
      rw [vu, if_neg (by decide), w17]; omega
    · show σ.1 21 = va_up w 16 (w 16 + 1) 18 ∧ 0 ≤ σ.1 21 ∧ σ.1 21 ≤ σ.1 19 + 1
      rw [vu, if_neg (by decide), w18]; omega
  · have hkn : k < n := by omega
    have sk : s k = 3 := (f3 k k2).mpr k3
    have wk : w k = 3 := by rw [← (f1 k k2).1.1]; exact sk
    have eK : pX11_king (sA μ 5 w) = some (k : Int) := king_m hV' hM' hkn wk (fun e he q => k4 e (by omega) ((f3 e (by omega)).mp (by rw [(f1 e (by omega)).1.1]; exact q)))
    have hks : ¬ σ.1 16 = -1 := by omega
    rw [if_neg hks] at eP
    by_cases h2 : 2 ≤ σ.1 18
    · by_cases hl : σ.1 17 = 1
      · have eC := kingE_b gn h7 hkn (by rw [g16]; exact k1) (by rw [g18]; omega) (by rw [g17]; exact hl)
        have eM2 := kingM_b (ν := sA μ 5 w) hM.1 h7 hkn eK (by rw [z5, w14]; omega) (by rw [z5, w15]; omega) m'
        rw [sA_sA, z5, ← eM] at eM2
        rw [g11, g17, g18, g20, g21, ← eP] at eC
        refine ⟨_, _, eC, eM2, ?_, by rw [← hτ]; rfl⟩
        rw [← hτ]
        refine ⟨hT, hX, hF, ⟨fun i hi => ?_, ?_, ?_, ?_, ?_, ?_, Or.inl ⟨rfl, fun i hi => ?_, rfl⟩⟩, hP, hI, hC, hB⟩
        · have hi : (i : Int) < σ.1 5 := hi
          have p := f1 i hi
          show (va_up s k 4 i = va_up (va_up (va_up (va_up (va_up (va_up w 14 (w 14 - 2)) 15 (w 15 - 1)) 17 (w 17 + 1)) 18 (w 18 + 1)) k 4) 16 (w 16 + 1) i ∧ 0 ≤ va_up s k 4 i ∧ va_up s k 4 i ≤ 5) ∧ (b i = va_up (va_up (va_up (va_up (va_up (va_up w 14 (w 14 - 2)) 15 (w 15 - 1)) 17 (w 17 + 1)) 18 (w 18 + 1)) k 4) 16 (w 16 + 1) (7 + i) ∧ _)
          by_cases hik : i = k
          · simp (disch := omega) only [vu, if_neg, if_pos]
            exact ⟨⟨trivial, by decide⟩, p.2⟩
          · simp (disch := omega) only [vu, if_neg]
            exact p
        · show σ.1 18 - 2 = va_up (va_up (va_up (va_up (va_up (va_up w 14 (w 14 - 2)) 15 (w 15 - 1)) 17 (w 17 + 1)) 18 (w 18 + 1)) k 4) 16 (w 16 + 1) 14 ∧ 0 ≤ σ.1 18 - 2 ∧ σ.1 18 - 2 ≤ 999
          simp (disch := omega) only [vu, if_neg, ite_true, w14]; omega
        · show 0 = va_up (va_up (va_up (va_up (va_up (va_up w 14 (w 14 - 2)) 15 (w 15 - 1)) 17 (w 17 + 1)) 18 (w 18 + 1)) k 4) 16 (w 16 + 1) 15 ∧ (0 : Int) ≤ 0 ∧ (0 : Int) ≤ 100
          simp (disch := omega) only [vu, if_neg, ite_true, w15]; omega
        · show σ.1 19 + 1 = w 16 + 1 ∧ 0 ≤ σ.1 19 + 1 ∧ σ.1 19 + 1 ≤ 9060
          rw [w16]; omega
        · show σ.1 20 + 1 = va_up (va_up (va_up (va_up (va_up (va_up w 14 (w 14 - 2)) 15 (w 15 - 1)) 17 (w 17 + 1)) 18 (w 18 + 1)) k 4) 16 (w 16 + 1) 17 ∧ 0 ≤ σ.1 20 + 1 ∧ σ.1 20 + 1 ≤ σ.1 19 + 1
          simp (disch := omega) only [vu, if_neg, ite_true, w17]; omega
        · show σ.1 21 + 1 = va_up (va_up (va_up (va_up (va_up (va_up w 14 (w 14 - 2)) 15 (w 15 - 1)) 17 (w 17 + 1)) 18 (w 18 + 1)) k 4) 16 (w 16 + 1) 18 ∧ 0 ≤ σ.1 21 + 1 ∧ σ.1 21 + 1 ≤ σ.1 19 + 1
          simp (disch := omega) only [vu, if_neg, ite_true, w18]; omega
        · have hi : (i : Int) < σ.1 5 := hi
          show va_up s k 4 i ≠ 3
          rw [vu]
          by_cases hik : i = k
          · rw [if_pos hik]; decide
          · rw [if_neg hik]; exact fun q => hik (k4 i hi ((f3 i hi).mp q))
      · have eC := kingE_a (τ := τ) (by rw [g18]; omega) (by rw [g17]; omega)
        have eM2 := kingM_a (ν := sA μ 5 w) hM.1 h7 hkn eK (by rw [z5, w14]; omega) (by rw [z5, w15]; omega) m'
        rw [sA_sA, z5, ← eM] at eM2
        rw [g17, g18, g20, ← eP] at eC
        refine ⟨_, _, eC, eM2, ?_, by rw [← hτ]; rfl⟩
        rw [← hτ]
        refine ⟨hT, hX, hF, ⟨fun i hi => ?_, ?_, ?_, ?_, ?_, ?_, Or.inr ⟨k, k1, k2, sk, fun i hi (q : s i = 3) => k4 i hi ((f3 i hi).mp q), ?_⟩⟩, hP, hI, hC, hB⟩
        · have hi : (i : Int) < σ.1 5 := hi
          have p := f1 i hi
          show (s i = va_up (va_up (va_up (va_up (va_up (va_up w 14 (w 14 - 2)) 15 (w 15 - 1)) 17 (w 17 + 1)) 18 (w 18 + 0)) k 3) 16 (w 16 + 1) i ∧ 0 ≤ s i ∧ s i ≤ 5) ∧ (b i = va_up (va_up (va_up (va_up (va_up (va_up w 14 (w 14 - 2)) 15 (w 15 - 1)) 17 (w 17 + 1)) 18 (w 18 + 0)) k 3) 16 (w 16 + 1) (7 + i) ∧ _)
          by_cases hik : i = k
          · simp (disch := omega) only [vu, if_neg, if_pos]
            exact ⟨⟨by rw [hik]; exact sk, p.1.2⟩, p.2⟩
          · simp (disch := omega) only [vu, if_neg]
            exact p
        · show σ.1 18 - 2 = va_up (va_up (va_up (va_up (va_up (va_up w 14 (w 14 - 2)) 15 (w 15 - 1)) 17 (w 17 + 1)) 18 (w 18 + 0)) k 3) 16 (w 16 + 1) 14 ∧ 0 ≤ σ.1 18 - 2 ∧ σ.1 18 - 2 ≤ 999
          simp (disch := omega) only [vu, if_neg, ite_true, w14]; omega
        · show σ.1 17 - 1 = va_up (va_up (va_up (va_up (va_up (va_up w 14 (w 14 - 2)) 15 (w 15 - 1)) 17 (w 17 + 1)) 18 (w 18 + 0)) k 3) 16 (w 16 + 1) 15 ∧ 0 ≤ σ.1 17 - 1 ∧ σ.1 17 - 1 ≤ 100
          simp (disch := omega) only [vu, if_neg, ite_true, w15]; omega
        · show σ.1 19 + 1 = w 16 + 1 ∧ 0 ≤ σ.1 19 + 1 ∧ σ.1 19 + 1 ≤ 9060
          rw [w16]; omega
        · show σ.1 20 + 1 = va_up (va_up (va_up (va_up (va_up (va_up w 14 (w 14 - 2)) 15 (w 15 - 1)) 17 (w 17 + 1)) 18 (w 18 + 0)) k 3) 16 (w 16 + 1) 17 ∧ 0 ≤ σ.1 20 + 1 ∧ σ.1 20 + 1 ≤ σ.1 19 + 1
          simp (disch := omega) only [vu, if_neg, ite_true, w17]; omega
        · show σ.1 21 = va_up (va_up (va_up (va_up (va_up (va_up w 14 (w 14 - 2)) 15 (w 15 - 1)) 17 (w 17 + 1)) 18 (w 18 + 0)) k 3) 16 (w 16 + 1) 18 ∧ 0 ≤ σ.1 21 ∧ σ.1 21 ≤ σ.1 19 + 1
          simp (disch := omega) only [vu, if_neg, ite_true, w18]; omega
        · show 1 ≤ σ.1 17 - 1
          omega
    · have eC := kingE_c gn h7 hkn (by rw [g16]; exact k1) (by rw [g18]; omega)
      have eM2 := kingM_c (ν := sA μ 5 w) hM.1 h7 hkn eK (by rw [z5, w14]; omega) m'
      rw [sA_sA, z5, ← eM] at eM2
      rw [g11, ← eP] at eC
      refine ⟨_, _, eC, eM2, ?_, by rw [← hτ]; rfl⟩
      rw [← hτ]
      refine ⟨hT, hX, hF, ⟨fun i hi => ?_, ?_, ?_, ?_, ?_, ?_, Or.inl ⟨rfl, fun i hi => ?_, rfl⟩⟩, hP, hI, hC, hB⟩
      · have hi : (i : Int) < σ.1 5 := hi
        have p := f1 i hi
        show (va_up s k 0 i = va_up (va_up (va_up w k 0) 15 0) 16 (w 16 + 1) i ∧ 0 ≤ va_up s k 0 i ∧ va_up s k 0 i ≤ 5) ∧ (b i = va_up (va_up (va_up w k 0) 15 0) 16 (w 16 + 1) (7 + i) ∧ _)
        by_cases hik : i = k
        · simp (disch := omega) only [vu, if_neg, if_pos]
          exact ⟨⟨trivial, by decide⟩, p.2⟩
        · simp (disch := omega) only [vu, if_neg]
          exact p
      · show σ.1 18 = va_up (va_up (va_up w k 0) 15 0) 16 (w 16 + 1) 14 ∧ _
        simp (disch := omega) only [vu, if_neg, w14]; exact n2
      · show 0 = va_up (va_up (va_up w k 0) 15 0) 16 (w 16 + 1) 15 ∧ (0 : Int) ≤ 0 ∧ (0 : Int) ≤ 100
        exact ⟨rfl, by decide, by decide⟩
      · show σ.1 19 + 1 = w 16 + 1 ∧ 0 ≤ σ.1 19 + 1 ∧ σ.1 19 + 1 ≤ 9060
        rw [w16]; omega
      · show σ.1 20 = va_up (va_up (va_up w k 0) 15 0) 16 (w 16 + 1) 17 ∧ 0 ≤ σ.1 20 ∧ σ.1 20 ≤ σ.1 19 + 1
        simp (disch := omega) only [vu, if_neg, w17]; omega
      · show σ.1 21 = va_up (va_up (va_up w k 0) 15 0) 16 (w 16 + 1) 18 ∧ 0 ≤ σ.1 21 ∧ σ.1 21 ≤ σ.1 19 + 1
        simp (disch := omega) only [vu, if_neg, w18]; omega
      · have hi : (i : Int) < σ.1 5 := hi
        show va_up s k 0 i ≠ 3
        rw [vu]
        by_cases hik : i = k
        · rw [if_pos hik]; decide
        · rw [if_neg hik]; exact fun q => hik (k4 i hi ((f3 i hi).mp q))
theorem minute_l : ∀ (d k m : Nat) {N : Nat} {σ μ : St}, k + d = N → N ≤ 60 → Rel σ μ → σ.1 19 + d ≤ 9060 → Al (pX10_minute_25 (m + d + 1) σ (N : Int) (k : Int)) (pX11_minute_18 (m + d + 1) μ (N : Int) (k : Int)) := by
  intro d
  induction d with
  | zero =>
    intro k m N σ μ hk hN h hm
    refine ⟨σ.1 19, σ, μ, ?_, ?_, h⟩
    · rw [pX10_minute_25, gd_t (by omega), if_pos (by omega)]
    · rw [pX11_minute_18, gd_t (by omega), if_pos (by omega), h.2.2.2.1.2.2.2.1.1]
  | succ d ih =>
    intro k m N σ μ hk hN h hm
    obtain ⟨τ, ν, e1, e2, hR, e3⟩ := pass_q h (by omega)
    rw [show m + (d + 1) + 1 = (m + d + 1) + 1 from by omega, pX10_minute_25, pX11_minute_18, gd_t (by omega), gd_t (by omega), if_neg (by omega), if_neg (by omega), e1, e2, Option.bind_some, Option.bind_some, cast1]
    exact ih (k + 1) m (by omega) hN hR (by omega)
theorem refusal_q (h : Rel σ μ) {x : Int} (hx : rg x) : ∃ r : Int, pX10_refusalOfMinutes σ x = some r ∧ pX11_minutesRefused μ x = some r ∧ rg r ∧ (r = 0 → (1 ≤ x ∧ x ≤ 60) ∧ σ.1 19 ≤ 9000) := by
  have t1 := h.1.1
  have t5 := h.1.2.2.2.2.1
  have n4 := h.2.2.2.1.2.2.2.1
  unfold pX10_refusalOfMinutes pX10_refusalOfMinutes_0 pX11_minutesRefused pX11_minutesRefused_0 pX8_isLaid_c1 pX8_isLaid_c1_0
  rw [within_e hx (by decide) (by decide), in_e hx (by decide) (by decide), gd_t hx, ← t1, ← n4.1]
  by_cases hc : 1 ≤ x ∧ x ≤ 60
  · rw [if_pos hc]
    by_cases hl : σ.1 2 = 0
    · simp (disch := omega) only [Option.bind_some, gd_t, if_neg, if_pos, ite_true]
      exact ⟨_, rfl, rfl, by decide, fun q => by omega⟩
    · simp (disch := omega) only [Option.bind_some, gd_t, if_neg]
      by_cases h9 : σ.1 19 ≤ 9000
      · rw [if_pos h9]; exact ⟨0, rfl, rfl, by decide, fun _ => ⟨hc, h9⟩⟩
      · rw [if_neg h9]; exact ⟨_, rfl, rfl, by decide, fun q => by omega⟩
  · rw [if_neg hc]
    exact ⟨-1000000002, by simp (disch := omega) only [gd_t, Option.bind_some, ite_true], by simp (disch := omega) only [gd_t, Option.bind_some, ite_true], by decide, fun q => by omega⟩
theorem minute_q (h : Rel σ μ) {x : Int} (hx : rg x) : Al (pX10_minute σ x) (pX11_minute μ x) := by
  obtain ⟨r, e1, e2, hr, h0⟩ := refusal_q h hx
  unfold Al pX10_minute pX10_minute_0 pX11_minute pX11_minute_0
  rw [e1, e2, Option.bind_some, Option.bind_some, gd_t hr, gd_t hr]
  by_cases hz : r = 0
  · rw [if_pos hz, if_pos hz]
    obtain ⟨hc, h9⟩ := h0 hz
    obtain ⟨τ, ν, r1, r2, hR, f1, f2⟩ := remember_q h
    rw [r1, r2, Option.bind_some, Option.bind_some]
    obtain ⟨N, rfl⟩ := Int.eq_ofNat_of_zero_le (show 0 ≤ x by omega)
    have a19 : τ.1 19 = σ.1 19 := f1.1 19 (by decide) (by decide)
    have := minute_l N 0 (99999 - N) (N := N) (by omega) (by omega) hR (by omega)
    rw [show 99999 - N + N + 1 = FU from by unfold FU; omega] at this
    exact this
  · rw [if_neg hz, if_neg hz]
    exact ⟨_, _, _, rfl, rfl, h⟩
/-! draws -/
theorem zAndL_31 {x : Int} (h : 0 ≤ x ∧ x ≤ 9223372036854775807) : zAndL x 2147483647 = x % 2147483648 := by
  obtain ⟨a, rfl⟩ := Int.eq_ofNat_of_zero_le h.1
  unfold zAndL
  have e : lN a &&& lN 2147483647 = lN (a &&& 2147483647) := Int64.toBitVec_inj.mp (by show BitVec.ofNat 64 a &&& BitVec.ofNat 64 2147483647 = BitVec.ofNat 64 (a &&& 2147483647); rw [BitVec.ofNat_and])
  have e2 : a &&& 2147483647 = a % 2147483648 := Nat.and_two_pow_sub_one_eq_mod a 31
  rw [zL_nat, show zL 2147483647 = lN 2147483647 from zL_nat 2147483647, e, e2, pk_lT (by omega)]
  omega
theorem draw_q (h : Rel σ μ) {x : Int} (hx : 1 ≤ x ∧ x ≤ 7) : ∃ (r v : Int), pX10_draw σ x = some (r, sI σ 1 v) ∧ pX11_draw μ x = some (r, sI μ 4 v) ∧ (0 ≤ r ∧ r < x) ∧ Rel (sI σ 1 v) (sI μ 4 v) := by
  obtain ⟨hT, hX, ⟨f1, f2⟩, hN, hP, hI, hC, hB⟩ := id h
  have hm := Int.emod_lt_of_pos ((σ.1 1 * 1103515245 + 12345) % 2147483648 / 65536) (show (0 : Int) < x by omega)
  have hm2 := Int.emod_nonneg ((σ.1 1 * 1103515245 + 12345) % 2147483648 / 65536) (show x ≠ 0 by omega)
  refine ⟨(σ.1 1 * 1103515245 + 12345) % 2147483648 / 65536 % x, (σ.1 1 * 1103515245 + 12345) % 2147483648, ?_, ?_, ⟨hm2, hm⟩, hT, hX, ⟨f1, ?_⟩, hN, hP, hI, hC, hB⟩
  · unfold pX10_draw pX10_draw_0
    rw [zAndL_31 (by omega)]
    simp (disch := omega) only [nm, gd_t, sI_1, if_neg, ite_true]
  · unfold pX11_draw pX11_draw_0
    rw [← f2.1]
    simp (disch := omega) only [nm, gd_t, sI_1, ite_true]
  · exact ⟨rfl, by show 0 ≤ (σ.1 1 * 1103515245 + 12345) % 2147483648; omega, by show (σ.1 1 * 1103515245 + 12345) % 2147483648 ≤ 2147483647; omega⟩
theorem act_q (h : Rel σ μ) (h0 : 0 < σ.1 5) : ∃ τ ν, pX10_actByDraws σ = some τ ∧ pX11_chance μ = some ν ∧ Rel τ ν ∧ τ.1 19 = σ.1 19 := by
  have h7 := h.n7
  have t3 := h.1.2.2.1
  obtain ⟨r, v, d1, d2, hr, hR1⟩ := draw_q h (x := σ.1 5) (by omega)
  obtain ⟨r', v', d3, d4, hr', hR2⟩ := draw_q hR1 (x := 3) (by decide)
  unfold pX10_actByDraws pX10_actByDraws_0 pX11_chance pX11_chance_0
  rw [gd_t (by omega), if_pos h0, ← t3, d1, d2, Option.bind_some, Option.bind_some]
  simp only [nm]
  rw [d3, d4, Option.bind_some, Option.bind_some]
  simp only [nm]
  have a19 : (sI (sI σ 1 v) 1 v').1 19 = σ.1 19 := rfl
  have a5 : (sI (sI σ 1 v) 1 v').1 5 = σ.1 5 := rfl
  generalize sI (sI σ 1 v) 1 v' = σ2 at hR2 a19 a5 ⊢
  generalize sI (sI μ 4 v) 4 v' = μ2 at hR2 ⊢
  obtain ⟨n, hV, hE, hM⟩ := hR2.vw
  have hn := hE.1
  have h7' := hV.1
  obtain ⟨e, rfl⟩ := Int.eq_ofNat_of_zero_le hr.1
  have he : e < n := by omega
  have hb := hV.2 e he
  rw [gd_t (by omega), gd_t (by omega)]
  unfold pX10_actByDraws_55 pX11_chance_37 pX10_actByDraws_82 pX11_chance_62
  rcases (show r' = 0 ∨ r' = 1 ∨ r' = 2 by omega) with rfl | rfl | rfl
  · obtain ⟨b1, e1, q1⟩ := canGoIn_e hR2 hV hE he
    obtain ⟨b2, e2, q2⟩ := canPut_m hR2 hV hM he
    rw [if_pos rfl, if_pos rfl, e1, e2, Option.bind_some, Option.bind_some]
    by_cases hp : canP σ2 n e
    · obtain rfl : b1 = 1 := by rcases q1 with q | q; exact q.1; exact absurd hp q.2
      obtain rfl : b2 = 1 := by rcases q2 with q | q; exact q.1; exact absurd hp q.2
      have hR3 := setSt_q hR2 (e := e) (by omega) (by rcases hp.1 with q | q <;> omega) (v := 1) (by decide) (by decide)
      have eG : pX4_goIn σ2 (e : Int) = some (sA σ2 11 (va_up (σ2.2 11) e 1)) := by
        unfold pX4_goIn pX4_goIn_0
        rw [setState_e hn h7' he]; rfl
      rw [eG]
      simp (disch := omega) only [gd_t, if_neg, Option.bind_some, Int.toNat_natCast]
      exact ⟨_, _, rfl, rfl, hR3, a19⟩
    · obtain rfl : b1 = 0 := by rcases q1 with q | q; exact absurd q.2 hp; exact q.1
      obtain rfl : b2 = 0 := by rcases q2 with q | q; exact absurd q.2 hp; exact q.1
      simp (disch := omega) only [gd_t, if_neg, ite_true]
      exact ⟨_, _, rfl, rfl, hR2, a19⟩
  · unfold pX4_canComeOut pX4_canComeOut_0
    rw [stateOf_e hV hE he, Int.toNat_natCast, (hM.2 e he).2.2.1]
    by_cases hp : σ2.2 11 e = 1
    · have hR3 := setSt_q hR2 (e := e) (by omega) (by omega) (v := 2) (by decide) (by decide)
      have eG : pX4_comeOut σ2 (e : Int) = some (sA σ2 11 (va_up (σ2.2 11) e 2)) := by
        unfold pX4_comeOut pX4_comeOut_0
        rw [setState_e hn h7' he]; rfl
      rw [eG]
      simp (disch := omega) only [gd_t, if_neg, if_pos, Option.bind_some]
      exact ⟨_, _, rfl, rfl, hR3, a19⟩
    · simp (disch := omega) only [gd_t, if_neg, Option.bind_some, ite_true]
      exact ⟨_, _, rfl, rfl, hR2, a19⟩
  · obtain ⟨b1, e1, q1⟩ := canBe_e hR2 hV hE he
    obtain ⟨b2, e2, q2⟩ := canCrown_m hR2 hV hM he
    rw [e1, e2]
    by_cases hp : σ2.2 11 e = 2 ∧ σ2.1 16 = -1
    · obtain rfl : b1 = 1 := by rcases q1 with q | q; exact q.1; exact absurd hp q.2
      obtain rfl : b2 = 1 := by rcases q2 with q | q; exact q.1; exact absurd hp q.2
      obtain ⟨r, τ2, ν2, s1, s2, s3, s4, s5, s6⟩ := become_q hR2 hV hE hM he hp.1 hp.2
      rw [s1, s2]
      simp (disch := omega) only [gd_t, if_neg, if_pos, Option.bind_some, ite_true]
      exact ⟨_, _, rfl, rfl, s3, by omega⟩
    · obtain rfl : b1 = 0 := by rcases q1 with q | q; exact absurd q.2 hp; exact q.1
      obtain rfl : b2 = 0 := by rcases q2 with q | q; exact absurd q.2 hp; exact q.1
      simp (disch := omega) only [gd_t, if_neg, if_pos, Option.bind_some, ite_true]
      exact ⟨_, _, rfl, rfl, hR2, a19⟩
theorem drift_l : ∀ (d k m : Nat) {N : Nat} {σ μ : St}, k + d = N → N ≤ 60 → Rel σ μ → σ.1 19 + d ≤ 9060 → Al (pX10_drift_25 (m + d + 1) σ (N : Int) (k : Int)) (pX11_drift_18 (m + d + 1) μ (N : Int) (k : Int)) := by
  intro d
  induction d with
  | zero =>
    intro k m N σ μ hk hN h hm
    refine ⟨σ.1 20, σ, μ, ?_, ?_, h⟩
    · rw [pX10_drift_25, gd_t (by omega), if_pos (by omega)]
    · rw [pX11_drift_18, gd_t (by omega), if_pos (by omega), h.2.2.2.1.2.2.2.2.1.1]
  | succ d ih =>
    intro k m N σ μ hk hN h hm
    have h7 := h.n7
    have t3 := h.1.2.2.1
    have t7 := h.1.2.2.2.2.2.2.1
    rw [show m + (d + 1) + 1 = (m + d + 1) + 1 from by omega, pX10_drift_25, pX11_drift_18, gd_t (by omega), gd_t (by omega), if_neg (by omega), if_neg (by omega), gd_t (by omega)]
    unfold pX11_drift_34
    by_cases h0 : 0 < σ.1 5
    · obtain ⟨τ, ν, a1, a2, hR, a3⟩ := act_q h h0
      obtain ⟨τ2, ν2, e1, e2, hR2, e3⟩ := pass_q hR (by omega)
      rw [if_neg (by omega), a1, a2, Option.bind_some, Option.bind_some, e1, e2, Option.bind_some, Option.bind_some, cast1]
      exact ih (k + 1) m (by omega) hN hR2 (by omega)
    · have a1 : pX10_actByDraws σ = some σ := by
        unfold pX10_actByDraws pX10_actByDraws_0
        rw [gd_t (by omega), if_neg h0]
      obtain ⟨τ2, ν2, e1, e2, hR2, e3⟩ := pass_q h (by omega)
      rw [if_pos (by omega), a1, Option.bind_some, e1, e2, Option.bind_some, Option.bind_some, cast1]
      exact ih (k + 1) m (by omega) hN hR2 (by omega)
theorem drift_q (h : Rel σ μ) {x : Int} (hx : rg x) : Al (pX10_drift σ x) (pX11_drift μ x) := by
  obtain ⟨r, e1, e2, hr, h0⟩ := refusal_q h hx
  unfold Al pX10_drift pX10_drift_0 pX11_drift pX11_drift_0
  rw [e1, e2, Option.bind_some, Option.bind_some, gd_t hr, gd_t hr]
  by_cases hz : r = 0
  · rw [if_pos hz, if_pos hz]
    obtain ⟨hc, h9⟩ := h0 hz
    obtain ⟨τ, ν, r1, r2, hR, f1, f2⟩ := remember_q h
    rw [r1, r2, Option.bind_some, Option.bind_some]
    obtain ⟨N, rfl⟩ := Int.eq_ofNat_of_zero_le (show 0 ≤ x by omega)
    have a19 : τ.1 19 = σ.1 19 := f1.1 19 (by decide) (by decide)
    have := drift_l N 0 (99999 - N) (N := N) (by omega) (by omega) hR (by omega)
    rw [show 99999 - N + N + 1 = FU from by unfold FU; omega] at this
    exact this
  · rw [if_neg hz, if_neg hz]
    exact ⟨_, _, _, rfl, rfl, h⟩
end
