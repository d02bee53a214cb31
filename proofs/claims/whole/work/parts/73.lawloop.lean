set_option maxHeartbeats 4000000 in
set_option maxRecDepth 100000 in
theorem law_loop {p : Program} {l : Launch} {e : Env} {s : State} {m : MethodId} {below : List Frame} {meth : Method} {c : Code} {D : va_G} {q q' : Nat → Nat} {cI cZ : ClassId} {b L : Nat} {xs : Nat → Int32} (C : Cx p s m #[Value.ref b] meth c D (TY cI cZ) cL_law ret 4 wsL_law RL) (hX : va_X b L xs s s.heap) (hbl : b < s.heap.size) (hL : L ≤ 192) :
    ∀ (n i : Nat), i ≤ L → L + 1 ≤ i + n → LwK p l e s m below meth c D q q' cI cZ b i 18 := by
  obtain ⟨hx, hb, hr, hml, hown, hts, hlk, hK, hN⟩ := id C
  intro n
  induction n with
  | zero => intro i h1 h2; exact absurd h2 (by omega)
  | succ n ih =>
    intro i hi hin σ μ H locs ls hR hw hl
    refine lv_iload_n hx hb dL_law_18 rfl (lv_at hl 3 rfl) ?_
    refine lv_aload_n hx hb dL_law_19 rfl (lv_at hl 0 rfl) ?_
    refine va_slen hx hb hX hbl (Nat.not_le.mpr hbl) hw.2.2 dL_law_20 ?_
    rw [show Int32.ofNat L = zI (L : Int) from (zI_nat L).symm]
    refine lv_iconst (v := zI 3) hx hb dL_law_21 rfl ?_
    refine zv_isub hx hb dL_law_22 ?_
    refine zv_icmp_gt (tgt := 857) hx hb (by omega) dL_law_23 (by decide) (fun c1 => ?_) (fun c1 => ?_)
    · refine lv_iconst (v := 1) hx hb dL_law_857 (by decide) ?_
      refine va_forget (fun z hz => hw.2.2.2.2 z hz) ?_
      exact lw_ret hx hb hr hlk dL_law_858
    · have h3 : i + 3 ≤ L := by omega
      have K : LwK p l e s m below meth c D q q' cI cZ b i 851 := by
        intro σ μ H locs ls hR hw hl
        refine lv_iinc (v := zI ((i + 3 : Nat) : Int)) (lv' := [(3, .int (zI ((i + 3 : Nat) : Int))), (0, .ref b), (1, .ref (q 0)), (2, .ref (q' 0))]) hx hb dL_law_851 hl (k := 3) rfl (by rw [show Int32.ofInt 3 = zI 3 from rfl, zI_add]; rfl) (by decide) rfl (fun ls hl => ?_)
        refine lv_goto (tgt := 18) hx hb dL_law_854 (by decide) ?_
        exact ih (i + 3) h3 (by omega) σ μ H locs ls hR hw (lv_sub hl [1, 2, 3, 0] rfl)
      refine lv_aload_n hx hb dL_law_26 rfl (lv_at hl 0 rfl) ?_
      refine lv_iload_n hx hb dL_law_27 rfl (lv_at hl 3 rfl) ?_
      rw [zI_nat]
      refine va_sld hx hb hX hbl (Nat.not_le.mpr hbl) hw.2.2 (vp_in_nI (show i < L by omega) (by omega)) dL_law_28 ?_
      refine lv_bipush (v := 31) hx hb dL_law_29 (by decide) ?_
      refine lv_iand hx hb dL_law_31 ?_
      refine lv_topi (fun x ex => ?_)
      by_cases hout : x.toInt < 0 ∨ 28 < x.toInt
      · refine lv_tableOut (tgt := 851) hx hb dL_law_32 hout (by decide) ?_
        exact K σ μ H locs ls hR hw hl
      · have hx28 : 0 ≤ x.toInt ∧ x.toInt ≤ 28 := by omega
        obtain ⟨k, hk⟩ := Int.eq_ofNat_of_zero_le hx28.1
        have hk28 : k ≤ 28 := by omega
        have ht : (x.toInt - 0).toNat = k := by omega
        match k, hk28, ht with
        | 0, _, ht => exact lv_tableIn (tgt := 164) (off := 132) hx hb dL_law_32 (by omega) (by omega) (by rw [ht]; rfl) (by decide) (lc_feed C hX hbl hL h3 K σ μ H locs ls hR hw hl)
        | 1, _, ht => exact lv_tableIn (tgt := 187) (off := 155) hx hb dL_law_32 (by omega) (by omega) (by rw [ht]; rfl) (by decide) (lc_table C hX hbl hL h3 K σ μ H locs ls hR hw hl)
        | 2, _, ht => exact lv_tableIn (tgt := 200) (off := 168) hx hb dL_law_32 (by omega) (by omega) (by rw [ht]; rfl) (by decide) (lc_fault C hX hbl hL h3 K σ μ H locs ls hR hw hl)
        | 3, _, ht => exact lv_tableIn (tgt := 213) (off := 181) hx hb dL_law_32 (by omega) (by omega) (by rw [ht]; rfl) (by decide) (lc_told C hX hbl hL h3 K σ μ H locs ls hR hw hl)
        | 4, _, ht => exact lv_tableIn (tgt := 236) (off := 204) hx hb dL_law_32 (by omega) (by omega) (by rw [ht]; rfl) (by decide) (lc_egg C hX hbl hL h3 K σ μ H locs ls hR hw hl)
        | 5, _, ht => exact lv_tableIn (tgt := 269) (off := 237) hx hb dL_law_32 (by omega) (by omega) (by rw [ht]; rfl) (by decide) (lc_eater C hX hbl hL h3 K σ μ H locs ls hR hw hl)
        | 6, _, ht => exact lv_tableIn (tgt := 302) (off := 270) hx hb dL_law_32 (by omega) (by omega) (by rw [ht]; rfl) (by decide) (lc_minute C hX hbl hL h3 K σ μ H locs ls hR hw hl)
        | 7, _, ht => exact lv_tableIn (tgt := 325) (off := 293) hx hb dL_law_32 (by omega) (by omega) (by rw [ht]; rfl) (by decide) (lc_put C hX hbl hL h3 K σ μ H locs ls hR hw hl)
        | 8, _, ht => exact lv_tableIn (tgt := 348) (off := 316) hx hb dL_law_32 (by omega) (by omega) (by rw [ht]; rfl) (by decide) (lc_takeOut C hX hbl hL h3 K σ μ H locs ls hR hw hl)
        | 9, _, ht => exact lv_tableIn (tgt := 371) (off := 339) hx hb dL_law_32 (by omega) (by omega) (by rw [ht]; rfl) (by decide) (lc_crown C hX hbl hL h3 K σ μ H locs ls hR hw hl)
        | 10, _, ht => exact lv_tableIn (tgt := 394) (off := 362) hx hb dL_law_32 (by omega) (by omega) (by rw [ht]; rfl) (by decide) (lc_cutToast C hX hbl hL h3 K σ μ H locs ls hR hw hl)
        | 11, _, ht => exact lv_tableIn (tgt := 417) (off := 385) hx hb dL_law_32 (by omega) (by omega) (by rw [ht]; rfl) (by decide) (lc_drift C hX hbl hL h3 K σ μ H locs ls hR hw hl)
        | 12, _, ht => exact lv_tableIn (tgt := 440) (off := 408) hx hb dL_law_32 (by omega) (by omega) (by rw [ht]; rfl) (by decide) (lc_undo C hX hbl hL h3 K σ μ H locs ls hR hw hl)
        | 13, _, ht => exact lv_tableIn (tgt := 453) (off := 421) hx hb dL_law_32 (by omega) (by omega) (by rw [ht]; rfl) (by decide) (lc_wish C hX hbl hL h3 K σ μ H locs ls hR hw hl)
        | 14, _, ht => exact lv_tableIn (tgt := 486) (off := 454) hx hb dL_law_32 (by omega) (by omega) (by rw [ht]; rfl) (by decide) (lc_needs C hX hbl hL h3 K σ μ H locs ls hR hw hl)
        | 15, _, ht => exact lv_tableIn (tgt := 519) (off := 487) hx hb dL_law_32 (by omega) (by omega) (by rw [ht]; rfl) (by decide) (lc_allBoiled C hX hbl hL h3 K σ μ H locs ls hR hw hl)
        | 16, _, ht => exact lv_tableIn (tgt := 552) (off := 520) hx hb dL_law_32 (by omega) (by omega) (by rw [ht]; rfl) (by decide) (lc_dynasty C hX hbl hL h3 K σ μ H locs ls hR hw hl)
        | 17, _, ht => exact lv_tableIn (tgt := 575) (off := 543) hx hb dL_law_32 (by omega) (by omega) (by rw [ht]; rfl) (by decide) (lc_liked C hX hbl hL h3 K σ μ H locs ls hR hw hl)
        | 18, _, ht => exact lv_tableIn (tgt := 598) (off := 566) hx hb dL_law_32 (by omega) (by omega) (by rw [ht]; rfl) (by decide) (lc_goose C hX hbl hL h3 K σ μ H locs ls hR hw hl)
        | 19, _, ht => exact lv_tableIn (tgt := 631) (off := 599) hx hb dL_law_32 (by omega) (by omega) (by rw [ht]; rfl) (by decide) (lc_whole C hX hbl hL h3 K σ μ H locs ls hR hw hl)
        | 20, _, ht => exact lv_tableIn (tgt := 664) (off := 632) hx hb dL_law_32 (by omega) (by omega) (by rw [ht]; rfl) (by decide) (lc_see C hX hbl hL h3 K σ μ H locs ls hR hw hl)
        | 21, _, ht => exact lv_tableIn (tgt := 697) (off := 665) hx hb dL_law_32 (by omega) (by omega) (by rw [ht]; rfl) (by decide) (lc_ages C hX hbl hL h3 K σ μ H locs ls hR hw hl)
        | 22, _, ht => exact lv_tableIn (tgt := 710) (off := 678) hx hb dL_law_32 (by omega) (by omega) (by rw [ht]; rfl) (by decide) (lc_testNext C hX hbl hL h3 K σ μ H locs ls hR hw hl)
        | 23, _, ht => exact lv_tableIn (tgt := 723) (off := 691) hx hb dL_law_32 (by omega) (by omega) (by rw [ht]; rfl) (by decide) (lc_write C hX hbl hL h3 K σ μ H locs ls hR hw hl)
        | 24, _, ht => exact lv_tableIn (tgt := 756) (off := 724) hx hb dL_law_32 (by omega) (by omega) (by rw [ht]; rfl) (by decide) (lc_tear C hX hbl hL h3 K σ μ H locs ls hR hw hl)
        | 25, _, ht => exact lv_tableIn (tgt := 769) (off := 737) hx hb dL_law_32 (by omega) (by omega) (by rw [ht]; rfl) (by decide) (lc_judge C hX hbl hL h3 K σ μ H locs ls hR hw hl)
        | 26, _, ht => exact lv_tableIn (tgt := 782) (off := 750) hx hb dL_law_32 (by omega) (by omega) (by rw [ht]; rfl) (by decide) (lc_seed C hX hbl hL h3 K σ μ H locs ls hR hw hl)
        | 27, _, ht => exact lv_tableIn (tgt := 805) (off := 773) hx hb dL_law_32 (by omega) (by omega) (by rw [ht]; rfl) (by decide) (lc_keep C hX hbl hL h3 K σ μ H locs ls hR hw hl)
        | 28, _, ht => exact lv_tableIn (tgt := 828) (off := 796) hx hb dL_law_32 (by omega) (by omega) (by rw [ht]; rfl) (by decide) (lc_goBack C hX hbl hL h3 K σ μ H locs ls hR hw hl)
        | k + 29, hh, _ => exact absurd hh (by omega)
