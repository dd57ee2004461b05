/-! ===== the law: its loop ===== -/
set_option maxHeartbeats 8000000 in
set_option maxRecDepth 100000 in
theorem law_loop {p : Program} {l : Launch} {e : Env} {s : State} {m : MethodId} {below : List Frame} {meth : Method} {c : Code} {b L : Nat} {xs : Nat → Int32} {ZC ZM : ZW} (hE : LE p s m meth c b L xs ZC ZM) (hL : L ≤ 3072) {cells slots : Nat} (hcl : cells ≤ room_1.cells) (hsl : slots ≤ room_1.slots) (hc6 : cells ≤ 600000) (hs7 : slots ≤ 7302250) :
    ∀ (n i : Nat), i ≤ L + 6 → L + 12 ≤ i + n → ∀ (σ τ : SS) (a : AT) (H : Heap) (locs : List Loc) (ls : Array Slot), AB a → CI σ a → MI τ a → PZ ZC σ H → PZ ZM τ H → va_S (A0 s) s.heap H locs → lv_has ls 4 (lvL b i ZC ZM) → W p l e room_1 s m #[Value.ref b] below meth c H locs cells slots (lw_Z below #[Value.ref b] s) (F0 m 18 ls []) := by
  obtain ⟨hx, hb, hr, hml, hown, hts0, hX, hbl, hlocks, hgv⟩ := hE.1
  have hbA : ¬ A0 s b := Nat.not_le.mpr hbl
  intro n
  induction n with
  | zero => intro i h1 h2; exact absurd h2 (by omega)
  | succ n ih =>
    intro i hi hn σ τ a H locs ls hA hC hM hP hP2 hS hl
    have hbc : c.code = cL_law := hb
    refine lv_iload_n hx hbc dL_law_18 rfl (lv_at hl 0 rfl) ?_
    refine lv_aload_n hx hbc dL_law_19 rfl (lv_at hl 3 rfl) ?_
    refine va_slen hx hbc hX hbl hbA hS dL_law_20 ?_
    refine lv_bipush (v := nI 6) hx hbc dL_law_21 (by decide) ?_
    refine lv_isub hx hbc dL_law_23 ?_
    refine lv_icmp_gt (tgt := 1189) hx hbc dL_law_24 (by decide) (fun hc => ?_) (fun hc => ?_)
    · refine lv_iconst (v := 1) hx hbc dL_law_1189 (by decide) ?_
      refine va_forget (fun q hq => hS.2.2 q hq) ?_
      refine W.widen (k := 600000) (n := 7302250) hc6 hs7 ?_
      exact lw_ret (s := s) (d0 := s.drawn) (Drawn.sameBut.refl s.drawn lw_cs) hx hb hr hlocks dL_law_1190
    · have hi6 : i + 6 ≤ L := by
        rw [show Int32.ofNat L = iz (L : Int) from iz_nI L, iz_nI, iz_nI, iz_sub, iz_lt (by omega)] at hc
        omega
      have tail : ∀ (σ τ : SS) (a : AT) (H : Heap) (locs : List Loc), AB a → CI σ a → MI τ a → PZ ZC σ H → PZ ZM τ H → va_S (A0 s) s.heap H locs → W p l e room_1 s m #[Value.ref b] below meth c H locs cells slots (lw_Z below #[Value.ref b] s) (F0 m 1183 ls []) := by
        intro σ τ a H locs hA hC hM hP hP2 hS
        refine lv_iinc (v := nI (i + 6)) (lv' := lvL b (i + 6) ZC ZM) hx hbc dL_law_1183 hl (k := 0) rfl (by rw [← nI_p]; rfl) (by decide) rfl (fun ls hl => ?_)
        refine lv_goto (tgt := 18) hx hbc dL_law_1186 (by decide) ?_
        exact ih (i + 6) (by omega) (by omega) σ τ a H locs ls hA hC hM hP hP2 hS hl
      refine lv_aload_n hx hbc dL_law_27 rfl (lv_at hl 3 rfl) ?_
      refine lv_iload_n hx hbc dL_law_28 rfl (lv_at hl 0 rfl) ?_
      refine va_sld hx hbc hX hbl hbA hS (in_p hi6 hL (k := 0) (by decide)) dL_law_29 ?_
      refine lv_bipush (v := nI 63) hx hbc dL_law_30 (by decide) ?_
      refine lv_iand hx hbc dL_law_32 ?_
      generalize xs (nI i).toNatClampNeg &&& nI 63 = v
      by_cases h0 : v = 0
      · refine lv_tableIn (tgt := 180) hx hbc dL_law_33 (by rw [h0] <;> decide) (by rw [h0] <;> decide) (by rw [h0] <;> rfl) (by decide) ?_
        exact law_c0 hE hi6 hL hcl hsl hA hC hM hP hP2 hS hl tail
      by_cases h1 : v = 1
      · refine lv_tableIn (tgt := 203) hx hbc dL_law_33 (by rw [h1] <;> decide) (by rw [h1] <;> decide) (by rw [h1] <;> rfl) (by decide) ?_
        exact law_c1 hE hi6 hL hcl hsl hA hC hM hP hP2 hS hl tail
      by_cases h2 : v = 2
      · refine lv_tableIn (tgt := 246) hx hbc dL_law_33 (by rw [h2] <;> decide) (by rw [h2] <;> decide) (by rw [h2] <;> rfl) (by decide) ?_
        exact law_c2 hE hi6 hL hcl hsl hA hC hM hP hP2 hS hl tail
      by_cases h3 : v = 3
      · refine lv_tableIn (tgt := 279) hx hbc dL_law_33 (by rw [h3] <;> decide) (by rw [h3] <;> decide) (by rw [h3] <;> rfl) (by decide) ?_
        exact law_c3 hE hi6 hL hcl hsl hA hC hM hP hP2 hS hl tail
      by_cases h4 : v = 4
      · refine lv_tableIn (tgt := 292) hx hbc dL_law_33 (by rw [h4] <;> decide) (by rw [h4] <;> decide) (by rw [h4] <;> rfl) (by decide) ?_
        exact law_c4 hE hi6 hL hcl hsl hA hC hM hP hP2 hS hl tail
      by_cases h5 : v = 5
      · refine lv_tableIn (tgt := 325) hx hbc dL_law_33 (by rw [h5] <;> decide) (by rw [h5] <;> decide) (by rw [h5] <;> rfl) (by decide) ?_
        exact law_c5 hE hi6 hL hcl hsl hA hC hM hP hP2 hS hl tail
      by_cases h6 : v = 6
      · refine lv_tableIn (tgt := 348) hx hbc dL_law_33 (by rw [h6] <;> decide) (by rw [h6] <;> decide) (by rw [h6] <;> rfl) (by decide) ?_
        exact law_c6 hE hi6 hL hcl hsl hA hC hM hP hP2 hS hl tail
      by_cases h7 : v = 7
      · refine lv_tableIn (tgt := 371) hx hbc dL_law_33 (by rw [h7] <;> decide) (by rw [h7] <;> decide) (by rw [h7] <;> rfl) (by decide) ?_
        exact law_c7 hE hi6 hL hcl hsl hA hC hM hP hP2 hS hl tail
      by_cases h8 : v = 8
      · refine lv_tableIn (tgt := 404) hx hbc dL_law_33 (by rw [h8] <;> decide) (by rw [h8] <;> decide) (by rw [h8] <;> rfl) (by decide) ?_
        exact law_c8 hE hi6 hL hcl hsl hA hC hM hP hP2 hS hl tail
      by_cases h9 : v = 9
      · refine lv_tableIn (tgt := 437) hx hbc dL_law_33 (by rw [h9] <;> decide) (by rw [h9] <;> decide) (by rw [h9] <;> rfl) (by decide) ?_
        exact law_c9 hE hi6 hL hcl hsl hA hC hM hP hP2 hS hl tail
      by_cases h10 : v = 10
      · refine lv_tableIn (tgt := 471) hx hbc dL_law_33 (by rw [h10] <;> decide) (by rw [h10] <;> decide) (by rw [h10] <;> rfl) (by decide) ?_
        exact law_c10 hE hi6 hL hcl hsl hA hC hM hP hP2 hS hl tail
      by_cases h11 : v = 11
      · refine lv_tableIn (tgt := 505) hx hbc dL_law_33 (by rw [h11] <;> decide) (by rw [h11] <;> decide) (by rw [h11] <;> rfl) (by decide) ?_
        exact law_c11 hE hi6 hL hcl hsl hA hC hM hP hP2 hS hl tail
      by_cases h12 : v = 12
      · refine lv_tableIn (tgt := 538) hx hbc dL_law_33 (by rw [h12] <;> decide) (by rw [h12] <;> decide) (by rw [h12] <;> rfl) (by decide) ?_
        exact law_c12 hE hi6 hL hcl hsl hA hC hM hP hP2 hS hl tail
      by_cases h13 : v = 13
      · refine lv_tableIn (tgt := 551) hx hbc dL_law_33 (by rw [h13] <;> decide) (by rw [h13] <;> decide) (by rw [h13] <;> rfl) (by decide) ?_
        exact law_c13 hE hi6 hL hcl hsl hA hC hM hP hP2 hS hl tail
      by_cases h14 : v = 14
      · refine lv_tableIn (tgt := 584) hx hbc dL_law_33 (by rw [h14] <;> decide) (by rw [h14] <;> decide) (by rw [h14] <;> rfl) (by decide) ?_
        exact law_c14 hE hi6 hL hcl hsl hA hC hM hP hP2 hS hl tail
      by_cases h15 : v = 15
      · refine lv_tableIn (tgt := 627) hx hbc dL_law_33 (by rw [h15] <;> decide) (by rw [h15] <;> decide) (by rw [h15] <;> rfl) (by decide) ?_
        exact law_c15 hE hi6 hL hcl hsl hA hC hM hP hP2 hS hl tail
      by_cases h16 : v = 16
      · refine lv_tableIn (tgt := 660) hx hbc dL_law_33 (by rw [h16] <;> decide) (by rw [h16] <;> decide) (by rw [h16] <;> rfl) (by decide) ?_
        exact law_c16 hE hi6 hL hcl hsl hA hC hM hP hP2 hS hl tail
      by_cases h17 : v = 17
      · refine lv_tableIn (tgt := 703) hx hbc dL_law_33 (by rw [h17] <;> decide) (by rw [h17] <;> decide) (by rw [h17] <;> rfl) (by decide) ?_
        exact law_c17 hE hi6 hL hcl hsl hA hC hM hP hP2 hS hl tail
      by_cases h18 : v = 18
      · refine lv_tableIn (tgt := 736) hx hbc dL_law_33 (by rw [h18] <;> decide) (by rw [h18] <;> decide) (by rw [h18] <;> rfl) (by decide) ?_
        exact law_c18 hE hi6 hL hcl hsl hA hC hM hP hP2 hS hl tail
      by_cases h19 : v = 19
      · refine lv_tableIn (tgt := 759) hx hbc dL_law_33 (by rw [h19] <;> decide) (by rw [h19] <;> decide) (by rw [h19] <;> rfl) (by decide) ?_
        exact law_c19 hE hi6 hL hcl hsl hA hC hM hP hP2 hS hl tail
      by_cases h20 : v = 20
      · refine lv_tableIn (tgt := 782) hx hbc dL_law_33 (by rw [h20] <;> decide) (by rw [h20] <;> decide) (by rw [h20] <;> rfl) (by decide) ?_
        exact law_c20 hE hi6 hL hcl hsl hA hC hM hP hP2 hS hl tail
      by_cases h21 : v = 21
      · refine lv_tableIn (tgt := 815) hx hbc dL_law_33 (by rw [h21] <;> decide) (by rw [h21] <;> decide) (by rw [h21] <;> rfl) (by decide) ?_
        exact law_c21 hE hi6 hL hcl hsl hA hC hM hP hP2 hS hl tail
      by_cases h22 : v = 22
      · refine lv_tableIn (tgt := 838) hx hbc dL_law_33 (by rw [h22] <;> decide) (by rw [h22] <;> decide) (by rw [h22] <;> rfl) (by decide) ?_
        exact law_c22 hE hi6 hL hcl hsl hA hC hM hP hP2 hS hl tail
      by_cases h23 : v = 23
      · refine lv_tableIn (tgt := 851) hx hbc dL_law_33 (by rw [h23] <;> decide) (by rw [h23] <;> decide) (by rw [h23] <;> rfl) (by decide) ?_
        exact law_c23 hE hi6 hL hcl hsl hA hC hM hP hP2 hS hl tail
      by_cases h24 : v = 24
      · refine lv_tableIn (tgt := 864) hx hbc dL_law_33 (by rw [h24] <;> decide) (by rw [h24] <;> decide) (by rw [h24] <;> rfl) (by decide) ?_
        exact law_c24 hE hi6 hL hcl hsl hA hC hM hP hP2 hS hl tail
      by_cases h25 : v = 25
      · refine lv_tableIn (tgt := 907) hx hbc dL_law_33 (by rw [h25] <;> decide) (by rw [h25] <;> decide) (by rw [h25] <;> rfl) (by decide) ?_
        exact law_c25 hE hi6 hL hcl hsl hA hC hM hP hP2 hS hl tail
      by_cases h26 : v = 26
      · refine lv_tableIn (tgt := 930) hx hbc dL_law_33 (by rw [h26] <;> decide) (by rw [h26] <;> decide) (by rw [h26] <;> rfl) (by decide) ?_
        exact law_c26 hE hi6 hL hcl hsl hA hC hM hP hP2 hS hl tail
      by_cases h27 : v = 27
      · refine lv_tableIn (tgt := 983) hx hbc dL_law_33 (by rw [h27] <;> decide) (by rw [h27] <;> decide) (by rw [h27] <;> rfl) (by decide) ?_
        exact law_c27 hE hi6 hL hcl hsl hA hC hM hP hP2 hS hl tail
      by_cases h28 : v = 28
      · refine lv_tableIn (tgt := 1017) hx hbc dL_law_33 (by rw [h28] <;> decide) (by rw [h28] <;> decide) (by rw [h28] <;> rfl) (by decide) ?_
        exact law_c28 hE hi6 hL hcl hsl hA hC hM hP hP2 hS hl tail
      by_cases h29 : v = 29
      · refine lv_tableIn (tgt := 1080) hx hbc dL_law_33 (by rw [h29] <;> decide) (by rw [h29] <;> decide) (by rw [h29] <;> rfl) (by decide) ?_
        exact law_c29 hE hi6 hL hcl hsl hA hC hM hP hP2 hS hl tail
      by_cases h30 : v = 30
      · refine lv_tableIn (tgt := 1103) hx hbc dL_law_33 (by rw [h30] <;> decide) (by rw [h30] <;> decide) (by rw [h30] <;> rfl) (by decide) ?_
        exact law_c30 hE hi6 hL hcl hsl hA hC hM hP hP2 hS hl tail
      by_cases h31 : v = 31
      · refine lv_tableIn (tgt := 1146) hx hbc dL_law_33 (by rw [h31] <;> decide) (by rw [h31] <;> decide) (by rw [h31] <;> rfl) (by decide) ?_
        exact law_c31 hE hi6 hL hcl hsl hA hC hM hP hP2 hS hl tail
      by_cases h32 : v = 32
      · refine lv_tableIn (tgt := 1169) hx hbc dL_law_33 (by rw [h32] <;> decide) (by rw [h32] <;> decide) (by rw [h32] <;> rfl) (by decide) ?_
        exact law_c32 hE hi6 hL hcl hsl hA hC hM hP hP2 hS hl tail
      refine lv_tableOut (tgt := 1183) hx hbc dL_law_33 (by
        have := tsw_n (x := v) 33 (by decide) (fun k hk => by
          match k, hk with
          | 0, _ => exact h0
          | 1, _ => exact h1
          | 2, _ => exact h2
          | 3, _ => exact h3
          | 4, _ => exact h4
          | 5, _ => exact h5
          | 6, _ => exact h6
          | 7, _ => exact h7
          | 8, _ => exact h8
          | 9, _ => exact h9
          | 10, _ => exact h10
          | 11, _ => exact h11
          | 12, _ => exact h12
          | 13, _ => exact h13
          | 14, _ => exact h14
          | 15, _ => exact h15
          | 16, _ => exact h16
          | 17, _ => exact h17
          | 18, _ => exact h18
          | 19, _ => exact h19
          | 20, _ => exact h20
          | 21, _ => exact h21
          | 22, _ => exact h22
          | 23, _ => exact h23
          | 24, _ => exact h24
          | 25, _ => exact h25
          | 26, _ => exact h26
          | 27, _ => exact h27
          | 28, _ => exact h28
          | 29, _ => exact h29
          | 30, _ => exact h30
          | 31, _ => exact h31
          | 32, _ => exact h32
          | k + 33, hk => exact absurd hk (by omega))
        omega) (by decide) ?_
      exact tail σ τ a H locs hA hC hM hP hP2 hS
