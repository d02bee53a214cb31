section
variable {σ μ : St}
theorem Rel.n7 (h : Rel σ μ) : σ.1 5 ≤ 7 := h.1.2.2.2.2.2.2.1.2
/-- an egg that is no king becomes something else than a king -/
theorem setSt_q (h : Rel σ μ) {e : Nat} (he : (e : Int) < σ.1 5) (h3 : σ.2 11 e ≠ 3) {v : Int} (hv : 0 ≤ v ∧ v ≤ 5) (hv3 : v ≠ 3) : Rel (sA σ 11 (va_up (σ.2 11) e v)) (sA μ 5 (va_up (μ.2 5) e v)) := by
  have h7 := h.n7
  obtain ⟨hT, hX, hF, ⟨n1, n2, n3, n4, n5, n6, n8⟩, hP, hI, hC, hB⟩ := id h
  refine ⟨hT, hX, hF, ⟨fun i hi => ?_, ?_, ?_, ?_, ?_, ?_, ?_⟩, hP, hI, hC, hB⟩
  · have hi : (i : Int) < σ.1 5 := hi
    have q := n1 i hi
    show (va_up (σ.2 11) e v i = va_up (μ.2 5) e v i ∧ 0 ≤ va_up (σ.2 11) e v i ∧ va_up (σ.2 11) e v i ≤ 5) ∧ (σ.2 12 i = va_up (μ.2 5) e v (7 + i) ∧ 0 ≤ σ.2 12 i ∧ σ.2 12 i ≤ σ.1 19)
    rw [vu, vu, vu, if_neg (show ¬ 7 + i = e by omega)]
    by_cases hie : i = e
    · rw [if_pos hie, if_pos hie]; exact ⟨⟨rfl, hv⟩, q.2⟩
    · rw [if_neg hie, if_neg hie]; exact q
  · show σ.1 18 = va_up (μ.2 5) e v 14 ∧ _
    rw [vu, if_neg (by omega)]; exact n2
  · show σ.1 17 = va_up (μ.2 5) e v 15 ∧ _
    rw [vu, if_neg (by omega)]; exact n3
  · show σ.1 19 = va_up (μ.2 5) e v 16 ∧ _
    rw [vu, if_neg (by omega)]; exact n4
  · show σ.1 20 = va_up (μ.2 5) e v 17 ∧ _
    rw [vu, if_neg (by omega)]; exact n5
  · show σ.1 21 = va_up (μ.2 5) e v 18 ∧ _
    rw [vu, if_neg (by omega)]; exact n6
  · rcases n8 with ⟨a, b, c⟩ | ⟨k, a, b, c, d, f⟩
    · refine Or.inl ⟨a, fun i hi => ?_, c⟩
      show va_up (σ.2 11) e v i ≠ 3
      rw [vu]
      by_cases hie : i = e
      · rw [if_pos hie]; exact hv3
      · rw [if_neg hie]; exact b i hi
    · refine Or.inr ⟨k, a, b, ?_, fun i hi => ?_, f⟩
      · show va_up (σ.2 11) e v k = 3
        rw [vu, if_neg (show ¬ k = e from fun q => h3 (by rw [← q]; exact c))]; exact c
      · show va_up (σ.2 11) e v i = 3 → i = k
        rw [vu]
        by_cases hie : i = e
        · rw [if_pos hie]; exact fun q => absurd q hv3
        · rw [if_neg hie]; exact d i hi
theorem crown_st (h : Rel σ μ) {e : Nat} (he : (e : Int) < σ.1 5) (h2 : σ.2 11 e = 2) (hk : σ.1 16 = -1) {r : Int} (hr : 1 ≤ r ∧ r ≤ 100) : Rel (sI (sI (sA σ 11 (va_up (σ.2 11) e 3)) 16 (e : Int)) 17 r) (sA μ 5 (va_up (va_up (μ.2 5) e 3) 15 r)) := by
  have h7 := h.n7
  obtain ⟨hT, hX, hF, ⟨n1, n2, n3, n4, n5, n6, n8⟩, hP, hI, hC, hB⟩ := id h
  have hnk : ∀ i : Nat, (i : Int) < σ.1 5 → σ.2 11 i ≠ 3 := by
    rcases n8 with ⟨a, b, c⟩ | ⟨k, a, b, c, d, f⟩
    · exact b
    · omega
  refine ⟨hT, hX, hF, ⟨fun i hi => ?_, ?_, ?_, ?_, ?_, ?_, ?_⟩, hP, hI, hC, hB⟩
  · have hi : (i : Int) < σ.1 5 := hi
    have q := n1 i hi
    show (va_up (σ.2 11) e 3 i = va_up (va_up (μ.2 5) e 3) 15 r i ∧ 0 ≤ va_up (σ.2 11) e 3 i ∧ va_up (σ.2 11) e 3 i ≤ 5) ∧ (σ.2 12 i = va_up (va_up (μ.2 5) e 3) 15 r (7 + i) ∧ 0 ≤ σ.2 12 i ∧ σ.2 12 i ≤ σ.1 19)
    rw [vu, vu, vu, vu, vu, if_neg (show ¬ i = 15 by omega), if_neg (show ¬ 7 + i = 15 by omega), if_neg (show ¬ 7 + i = e by omega)]
    by_cases hie : i = e
    · rw [if_pos hie, if_pos hie]; exact ⟨⟨rfl, by decide⟩, q.2⟩
    · rw [if_neg hie, if_neg hie]; exact q
  · show σ.1 18 = va_up (va_up (μ.2 5) e 3) 15 r 14 ∧ _
    rw [vu, vu, if_neg (by omega), if_neg (by omega)]; exact n2
  · show r = va_up (va_up (μ.2 5) e 3) 15 r 15 ∧ 0 ≤ r ∧ r ≤ 100
    rw [vu, if_pos rfl]; omega
  · show σ.1 19 = va_up (va_up (μ.2 5) e 3) 15 r 16 ∧ _
    rw [vu, vu, if_neg (by omega), if_neg (by omega)]; exact n4
  · show σ.1 20 = va_up (va_up (μ.2 5) e 3) 15 r 17 ∧ _
    rw [vu, vu, if_neg (by omega), if_neg (by omega)]; exact n5
  · show σ.1 21 = va_up (va_up (μ.2 5) e 3) 15 r 18 ∧ _
    rw [vu, vu, if_neg (by omega), if_neg (by omega)]; exact n6
  · refine Or.inr ⟨e, rfl, he, ?_, fun i hi => ?_, hr.1⟩
    · show va_up (σ.2 11) e 3 e = 3
      rw [vu, if_pos rfl]
    · show va_up (σ.2 11) e 3 i = 3 → i = e
      rw [vu]
      by_cases hie : i = e
      · exact fun _ => hie
      · rw [if_neg hie]; exact fun q => absurd q (hnk i hi)
theorem setState_e {n : Nat} (hn : σ.1 5 = (n : Int)) (h7 : n ≤ 7) {e : Nat} (he : e < n) (v : Int) : pX4_setState σ (e : Int) v = some (sA σ 11 (va_up (σ.2 11) e v)) := by
  unfold pX4_setState pX4_setState_0
  rw [hasEgg_e hn h7 (by omega), if_pos (by omega)]
  simp (disch := omega) only [gd_t, if_neg, Option.bind_some, nm, Int.toNat_natCast]
theorem king_q (h : Rel σ μ) : pX11_king μ = some (σ.1 16) := by
  obtain ⟨n, hV, hE, hM⟩ := h.vw
  have hn := hE.1
  rcases h.2.2.2.1.2.2.2.2.2.2 with ⟨q1, q2, -⟩ | ⟨k, q1, q2, q3, q4, -⟩
  · rw [q1]; exact king_n hV hM (fun e he => q2 e (by omega))
  · rw [q1]; exact king_m hV hM (by omega) q3 (fun e he q => q4 e (by omega) q)
/-- can an egg be put, taken out, crowned: both say the same -/
def canP (σ : St) (n e : Nat) : Prop := (σ.2 11 e = 0 ∨ σ.2 11 e = 2) ∧ ((cnt (fun i => decide (σ.2 11 i = 1)) n : Nat) : Int) < σ.1 2
theorem canGoIn_e (h : Rel σ μ) {n : Nat} (hV : Vw n (σ.2 0) (σ.2 1) (σ.2 11) (σ.2 12)) (hE : VE σ n (σ.2 0) (σ.2 1) (σ.2 11) (σ.2 12)) {e : Nat} (he : e < n) : ∃ b : Int, pX4_canGoIn σ (e : Int) = some b ∧ ((b = 1 ∧ canP σ n e) ∨ (b = 0 ∧ ¬ canP σ n e)) := by
  have hc := cnt_le (fun i => decide (σ.2 11 i = 1)) n
  have h7 := hV.1
  have hb := hV.2 e he
  have t5 := h.1.2.2.2.2.1
  unfold pX4_canGoIn pX4_canGoIn_0 pX4_canGoIn_15 canP
  rw [stateOf_e hV hE he, howMany_e hV hE]
  simp (disch := omega) only [Option.bind_some, gd_t]
  by_cases h0 : σ.2 11 e = 0
  · rw [if_pos h0]
    by_cases h1 : σ.1 2 ≤ ((cnt (fun i => decide (σ.2 11 i = 1)) n : Nat) : Int)
    · rw [if_pos h1]; exact ⟨0, rfl, Or.inr ⟨rfl, by omega⟩⟩
    · rw [if_neg h1]; exact ⟨1, rfl, Or.inl ⟨rfl, by omega⟩⟩
  · rw [if_neg h0]
    by_cases h2 : σ.2 11 e = 2
    · rw [if_pos h2]
      by_cases h1 : σ.1 2 ≤ ((cnt (fun i => decide (σ.2 11 i = 1)) n : Nat) : Int)
      · rw [if_pos h1]; exact ⟨0, rfl, Or.inr ⟨rfl, by omega⟩⟩
      · rw [if_neg h1]; exact ⟨1, rfl, Or.inl ⟨rfl, by omega⟩⟩
    · rw [if_neg h2]; exact ⟨0, rfl, Or.inr ⟨rfl, by omega⟩⟩
theorem canPut_m (h : Rel σ μ) {n : Nat} (hV : Vw n (σ.2 0) (σ.2 1) (σ.2 11) (σ.2 12)) (hM : VM μ n (σ.2 0) (σ.2 1) (σ.2 11) (σ.2 12)) {e : Nat} (he : e < n) : ∃ b : Int, pX11_canPut μ (e : Int) = some b ∧ ((b = 1 ∧ canP σ n e) ∨ (b = 0 ∧ ¬ canP σ n e)) := by
  have hc := cnt_le (fun i => decide (σ.2 11 i = 1)) n
  have h7 := hV.1
  have hb := hV.2 e he
  have t5 := h.1.2.2.2.2.1
  have t1 := h.1.1
  unfold pX11_canPut pX11_canPut_0 pX11_canPut_19 canP
  rw [inPan_m hV hM, Int.toNat_natCast, (hM.2 e he).2.2.1, ← t1]
  simp (disch := omega) only [Option.bind_some, gd_t]
  by_cases h0 : σ.2 11 e = 0
  · rw [if_pos h0]
    by_cases h1 : σ.1 2 ≤ ((cnt (fun i => decide (σ.2 11 i = 1)) n : Nat) : Int)
    · rw [if_pos h1]; exact ⟨0, rfl, Or.inr ⟨rfl, by omega⟩⟩
    · rw [if_neg h1]; exact ⟨1, rfl, Or.inl ⟨rfl, by omega⟩⟩
  · rw [if_neg h0]
    by_cases h2 : σ.2 11 e = 2
    · rw [if_pos h2]
      by_cases h1 : σ.1 2 ≤ ((cnt (fun i => decide (σ.2 11 i = 1)) n : Nat) : Int)
      · rw [if_pos h1]; exact ⟨0, rfl, Or.inr ⟨rfl, by omega⟩⟩
      · rw [if_neg h1]; exact ⟨1, rfl, Or.inl ⟨rfl, by omega⟩⟩
    · rw [if_neg h2]; exact ⟨0, rfl, Or.inr ⟨rfl, by omega⟩⟩
theorem canBe_e (h : Rel σ μ) {n : Nat} (hV : Vw n (σ.2 0) (σ.2 1) (σ.2 11) (σ.2 12)) (hE : VE σ n (σ.2 0) (σ.2 1) (σ.2 11) (σ.2 12)) {e : Nat} (he : e < n) : ∃ b : Int, pX4_canBeKing σ (e : Int) = some b ∧ ((b = 1 ∧ σ.2 11 e = 2 ∧ σ.1 16 = -1) ∨ (b = 0 ∧ ¬ (σ.2 11 e = 2 ∧ σ.1 16 = -1))) := by
  have hb := hV.2 e he
  have h7 := hV.1
  have hn := hE.1
  have hk : rg (σ.1 16) := by
    rcases h.2.2.2.1.2.2.2.2.2.2 with ⟨q1, -, -⟩ | ⟨k, q1, q2, -⟩ <;> omega
  unfold pX4_canBeKing pX4_canBeKing_0
  rw [stateOf_e hV hE he]
  simp (disch := omega) only [Option.bind_some, gd_t]
  by_cases h2 : σ.2 11 e = 2
  · rw [if_pos h2]
    by_cases h1 : σ.1 16 = -1
    · rw [if_pos h1]; exact ⟨1, rfl, Or.inl ⟨rfl, h2, h1⟩⟩
    · rw [if_neg h1]; exact ⟨0, rfl, Or.inr ⟨rfl, fun q => h1 q.2⟩⟩
  · rw [if_neg h2]; exact ⟨0, rfl, Or.inr ⟨rfl, fun q => h2 q.1⟩⟩
theorem canCrown_m (h : Rel σ μ) {n : Nat} (hV : Vw n (σ.2 0) (σ.2 1) (σ.2 11) (σ.2 12)) (hM : VM μ n (σ.2 0) (σ.2 1) (σ.2 11) (σ.2 12)) {e : Nat} (he : e < n) : ∃ b : Int, pX11_canCrown μ (e : Int) = some b ∧ ((b = 1 ∧ σ.2 11 e = 2 ∧ σ.1 16 = -1) ∨ (b = 0 ∧ ¬ (σ.2 11 e = 2 ∧ σ.1 16 = -1))) := by
  have hb := hV.2 e he
  have h7 := hV.1
  have hk : rg (σ.1 16) ∧ (σ.1 16 = -1 ∨ 0 ≤ σ.1 16) := by
    have := h.n7
    rcases h.2.2.2.1.2.2.2.2.2.2 with ⟨q1, -, -⟩ | ⟨k, q1, q2, -⟩ <;> omega
  unfold pX11_canCrown pX11_canCrown_0
  rw [king_q h, Int.toNat_natCast, (hM.2 e he).2.2.1]
  simp (disch := omega) only [Option.bind_some, gd_t]
  by_cases h2 : σ.2 11 e = 2
  · rw [if_pos h2]
    by_cases h1 : σ.1 16 = -1
    · rw [if_neg (by omega)]; exact ⟨1, rfl, Or.inl ⟨rfl, h2, h1⟩⟩
    · rw [if_pos (by omega)]; exact ⟨0, rfl, Or.inr ⟨rfl, fun q => h1 q.2⟩⟩
  · rw [if_neg h2]; exact ⟨0, rfl, Or.inr ⟨rfl, fun q => h2 q.1⟩⟩
/-- crowning, both -/
theorem become_q (h : Rel σ μ) {n : Nat} (hV : Vw n (σ.2 0) (σ.2 1) (σ.2 11) (σ.2 12)) (hE : VE σ n (σ.2 0) (σ.2 1) (σ.2 11) (σ.2 12)) (hM : VM μ n (σ.2 0) (σ.2 1) (σ.2 11) (σ.2 12)) {e : Nat} (he : e < n) (h2 : σ.2 11 e = 2) (hk : σ.1 16 = -1) : ∃ r τ ν, pX4_becomeKing σ (e : Int) = some τ ∧ pX11_crownNow μ (e : Int) = some ν ∧ Rel τ ν ∧ τ.1 17 = r ∧ ν.2 5 15 = r ∧ τ.1 19 = σ.1 19 := by
  have h7 := hV.1
  have hn := hE.1
  have hr := rv_b (a := σ.2 0 e) (b := σ.2 12 e) (hV.2 e he).2.1
  have hV' : Vw n (σ.2 0) (σ.2 1) (va_up (σ.2 11) e 3) (σ.2 12) := ⟨h7, fun i hi => by
    have q := hV.2 i hi
    refine ⟨q.1, q.2.1, ?_, q.2.2.2⟩
    rw [vu]
    by_cases hie : i = e
    · rw [if_pos hie]; decide
    · rw [if_neg hie]; exact q.2.2.1⟩
  have hE' : VE (sI (sA σ 11 (va_up (σ.2 11) e 3)) 16 (e : Int)) n (σ.2 0) (σ.2 1) (va_up (σ.2 11) e 3) (σ.2 12) := ⟨hn, fun i hi => ⟨rfl, rfl, rfl, rfl⟩⟩
  have hM' : VM (sA μ 5 (va_up (μ.2 5) e 3)) n (σ.2 0) (σ.2 1) (va_up (σ.2 11) e 3) (σ.2 12) := ⟨hM.1, fun i hi => by
    have q := hM.2 i hi
    refine ⟨q.1, q.2.1, ?_, ?_⟩
    · show va_up (μ.2 5) e 3 i = _
      rw [vu, vu]
      by_cases hie : i = e
      · rw [if_pos hie, if_pos hie]
      · rw [if_neg hie, if_neg hie]; exact q.2.2.1
    · show va_up (μ.2 5) e 3 (7 + i) = _
      rw [vu, if_neg (by omega)]; exact q.2.2.2⟩
  refine ⟨rv (σ.2 0 e) (σ.2 1 e) (σ.2 12 e), _, _, ?_, ?_, crown_st h (by omega) h2 hk (r := rv (σ.2 0 e) (σ.2 1 e) (σ.2 12 e)) (by omega), rfl, rfl, rfl⟩
  · unfold pX4_becomeKing pX4_becomeKing_0
    rw [setState_e hn h7 he, Option.bind_some]
    simp only [nm]
    rw [reignOf_e hV' hE' he, Option.bind_some]
  · unfold pX11_crownNow pX11_crownNow_0
    rw [gd_t (by omega)]
    simp only [nm, Int.toNat_natCast]
    rw [reign_m hV' hM' he, Option.bind_some, sA_sA]
    rfl
theorem put_q (h : Rel σ μ) {x : Int} (hx : rg x) : Al (pX10_put σ x) (pX11_put μ x) := by
  obtain ⟨n, hV, hE, hM⟩ := h.vw
  have h7 := hV.1
  have hn := hE.1
  unfold Al pX10_put pX10_put_0 pX11_put pX11_put_0
  rw [hasEgg_e hn h7 hx, isEgg_m hM.1 h7 hx]
  by_cases hc : 0 ≤ x ∧ x < (n : Int)
  · rw [if_pos hc]
    obtain ⟨e, rfl⟩ := Int.eq_ofNat_of_zero_le hc.1
    have he : e < n := by omega
    obtain ⟨b1, e1, q1⟩ := canGoIn_e h hV hE he
    obtain ⟨b2, e2, q2⟩ := canPut_m h hV hM he
    rw [e1, e2]
    by_cases hp : canP σ n e
    · obtain rfl : b1 = 1 := by rcases q1 with q | q; exact q.1; exact absurd hp q.2
      obtain rfl : b2 = 1 := by rcases q2 with q | q; exact q.1; exact absurd hp q.2
      obtain ⟨τ, ν, r1, r2, hR, f1, f2⟩ := remember_q h
      rw [r1, r2]
      simp (disch := omega) only [Option.bind_some, gd_t, if_neg]
      have a5 : τ.1 5 = σ.1 5 := f1.1 5 (by decide) (by decide)
      have a11 : τ.2 11 = σ.2 11 := f1.2 11 (by decide)
      have hR2 := setSt_q hR (e := e) (by omega) (by rw [a11]; rcases hp.1 with q | q <;> omega) (v := 1) (by decide) (by decide)
      obtain ⟨n', hV2, hE2, hM2⟩ := hR2.vw
      have hn2 : τ.1 5 = (n' : Int) := hE2.1
      have eG : pX4_goIn τ (e : Int) = some (sA τ 11 (va_up (τ.2 11) e 1)) := by
        unfold pX4_goIn pX4_goIn_0
        rw [setState_e hn2 hV2.1 (by omega)]; rfl
      rw [eG]
      simp only [Option.bind_some, nm, Int.toNat_natCast]
      rw [howMany_e hV2 hE2, inPan_m hV2 hM2]
      exact ⟨_, _, _, rfl, rfl, hR2⟩
    · obtain rfl : b1 = 0 := by rcases q1 with q | q; exact absurd q.2 hp; exact q.1
      obtain rfl : b2 = 0 := by rcases q2 with q | q; exact absurd q.2 hp; exact q.1
      simp (disch := omega) only [Option.bind_some, gd_t, if_neg, ite_true]
      exact ⟨_, _, _, rfl, rfl, h⟩
  · rw [if_neg hc]
    exact ⟨-1000000001, σ, μ, by simp (disch := omega) only [gd_t, Option.bind_some, if_neg, ite_true], by simp (disch := omega) only [gd_t, Option.bind_some, if_neg, ite_true], h⟩
theorem takeOut_q (h : Rel σ μ) {x : Int} (hx : rg x) : Al (pX10_takeOut σ x) (pX11_takeOut μ x) := by
  obtain ⟨n, hV, hE, hM⟩ := h.vw
  have h7 := hV.1
  have hn := hE.1
  unfold Al pX10_takeOut pX10_takeOut_0 pX11_takeOut pX11_takeOut_0 pX4_canComeOut pX4_canComeOut_0
  rw [hasEgg_e hn h7 hx, isEgg_m hM.1 h7 hx]
  by_cases hc : 0 ≤ x ∧ x < (n : Int)
  · rw [if_pos hc]
    obtain ⟨e, rfl⟩ := Int.eq_ofNat_of_zero_le hc.1
    have he : e < n := by omega
    have hb := hV.2 e he
    rw [stateOf_e hV hE he, Int.toNat_natCast, (hM.2 e he).2.2.1]
    by_cases hp : σ.2 11 e = 1
    · obtain ⟨τ, ν, r1, r2, hR, f1, f2⟩ := remember_q h
      rw [r1, r2]
      simp (disch := omega) only [Option.bind_some, gd_t, if_neg, if_pos]
      have a5 : τ.1 5 = σ.1 5 := f1.1 5 (by decide) (by decide)
      have a11 : τ.2 11 = σ.2 11 := f1.2 11 (by decide)
      have hR2 := setSt_q hR (e := e) (by omega) (by rw [a11]; omega) (v := 2) (by decide) (by decide)
      obtain ⟨n', hV2, hE2, hM2⟩ := hR2.vw
      have hn2 : τ.1 5 = (n' : Int) := hE2.1
      have eG : pX4_comeOut τ (e : Int) = some (sA τ 11 (va_up (τ.2 11) e 2)) := by
        unfold pX4_comeOut pX4_comeOut_0
        rw [setState_e hn2 hV2.1 (by omega)]; rfl
      rw [eG]
      simp only [Option.bind_some, nm]
      rw [hardnessOf_e hV2 hE2 (by omega), hard_m hV2 hM2 (by omega)]
      exact ⟨_, _, _, rfl, rfl, hR2⟩
    · simp (disch := omega) only [Option.bind_some, gd_t, if_neg, ite_true]
      exact ⟨_, _, _, rfl, rfl, h⟩
  · rw [if_neg hc]
    exact ⟨-1000000001, σ, μ, by simp (disch := omega) only [gd_t, Option.bind_some, if_neg, ite_true], by simp (disch := omega) only [gd_t, Option.bind_some, if_neg, ite_true], h⟩
theorem crown_q (h : Rel σ μ) {x : Int} (hx : rg x) : Al (pX10_crown σ x) (pX11_crown μ x) := by
  obtain ⟨n, hV, hE, hM⟩ := h.vw
  have h7 := hV.1
  have hn := hE.1
  unfold Al pX10_crown pX10_crown_0 pX11_crown pX11_crown_0
  rw [hasEgg_e hn h7 hx, isEgg_m hM.1 h7 hx]
  by_cases hc : 0 ≤ x ∧ x < (n : Int)
  · rw [if_pos hc]
    obtain ⟨e, rfl⟩ := Int.eq_ofNat_of_zero_le hc.1
    have he : e < n := by omega
    obtain ⟨b1, e1, q1⟩ := canBe_e h hV hE he
    obtain ⟨b2, e2, q2⟩ := canCrown_m h hV hM he
    rw [e1, e2]
    by_cases hp : σ.2 11 e = 2 ∧ σ.1 16 = -1
    · obtain rfl : b1 = 1 := by rcases q1 with q | q; exact q.1; exact absurd hp q.2
      obtain rfl : b2 = 1 := by rcases q2 with q | q; exact q.1; exact absurd hp q.2
      obtain ⟨τ, ν, r1, r2, hR, f1, f2⟩ := remember_q h
      rw [r1, r2]
      simp (disch := omega) only [Option.bind_some, gd_t, if_neg]
      have a5 : τ.1 5 = σ.1 5 := f1.1 5 (by decide) (by decide)
      have a16 : τ.1 16 = σ.1 16 := f1.1 16 (by decide) (by decide)
      have a11 : τ.2 11 = σ.2 11 := f1.2 11 (by decide)
      obtain ⟨n', hV2, hE2, hM2⟩ := hR.vw
      have hn2 := hE2.1
      obtain ⟨r, τ2, ν2, s1, s2, s3, s4, s5, -⟩ := become_q hR hV2 hE2 hM2 (e := e) (by omega) (by rw [a11]; exact hp.1) (by rw [a16]; exact hp.2)
      rw [s1, s2]
      exact ⟨r, τ2, ν2, by rw [Option.bind_some, s4], by rw [Option.bind_some, s5], s3⟩
    · obtain rfl : b1 = 0 := by rcases q1 with q | q; exact absurd q.2 hp; exact q.1
      obtain rfl : b2 = 0 := by rcases q2 with q | q; exact absurd q.2 hp; exact q.1
      simp (disch := omega) only [Option.bind_some, gd_t, if_neg, ite_true]
      exact ⟨_, _, _, rfl, rfl, h⟩
  · rw [if_neg hc]
    exact ⟨-1000000001, σ, μ, by simp (disch := omega) only [gd_t, Option.bind_some, if_neg, ite_true], by simp (disch := omega) only [gd_t, Option.bind_some, if_neg, ite_true], h⟩
theorem cutToast_q (h : Rel σ μ) {x : Int} (hx : rg x) : Al (pX10_cutToast σ x) (pX11_cutToast μ x) := by
  have t1 := h.1.1
  have t5 := h.1.2.2.2.2.1
  unfold Al pX10_cutToast pX10_cutToast_0 pX11_cutToast pX11_cutToast_0 pX8_isLaid_c1 pX8_isLaid_c1_0 pX11_cutToast_65
  rw [within_e hx (by decide) (by decide), in_e hx (by decide) (by decide), gd_t hx, ← t1]
  by_cases hc : 1 ≤ x ∧ x ≤ 99
  · rw [if_pos hc]
    by_cases hl : σ.1 2 = 0
    · simp (disch := omega) only [Option.bind_some, gd_t, if_neg, if_pos, ite_true]
      exact ⟨_, _, _, rfl, rfl, h⟩
    · obtain ⟨τ, ν, r1, r2, hR, f1, f2⟩ := remember_q h
      have h7 := hR.n7
      obtain ⟨hT, hX, hF, ⟨n1, n2, n3, n4, n5, n6, n8⟩, hP, hI, hC, hB⟩ := id hR
      rw [r1, r2]
      refine ⟨min 999 (τ.1 18 + x), sI τ 18 (min 999 (τ.1 18 + x)), sA ν 5 (va_up (ν.2 5) 14 (min 999 (τ.1 18 + x))), ?_, ?_, hT, hX, hF, ⟨fun i hi => ?_, ?_, n3, n4, n5, n6, n8⟩, hP, hI, hC, hB⟩
      · simp (disch := omega) only [Option.bind_some, gd_t, if_neg, nm, sI_1, ite_true]
      · simp only [Option.bind_some]
        rw [← n2.1]
        simp (disch := omega) only [gd_t, if_neg, nm]
        by_cases h9 : 999 ≤ τ.1 18 + x
        · rw [if_pos h9, show min 999 (τ.1 18 + x) = 999 from by omega]; rfl
        · rw [if_neg h9, show min 999 (τ.1 18 + x) = τ.1 18 + x from by omega]; rfl
      · have hi : (i : Int) < τ.1 5 := hi
        have q := n1 i hi
        show (τ.2 11 i = va_up (ν.2 5) 14 _ i ∧ _) ∧ (τ.2 12 i = va_up (ν.2 5) 14 _ (7 + i) ∧ _)
        rw [vu, vu, if_neg (by omega), if_neg (by omega)]
        exact q
      · show min 999 (τ.1 18 + x) = min 999 (τ.1 18 + x) ∧ 0 ≤ min 999 (τ.1 18 + x) ∧ min 999 (τ.1 18 + x) ≤ 999
        omega
  · rw [if_neg hc]
    exact ⟨-1000000002, σ, μ, by simp (disch := omega) only [gd_t, Option.bind_some, if_neg, ite_true], by simp (disch := omega) only [gd_t, Option.bind_some, if_neg, ite_true], h⟩
end
