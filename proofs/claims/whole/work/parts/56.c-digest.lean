/-! ===== the class: the digest ===== -/
def rf (σ σ' : SS) (b : BT) (w : WT) : Prop := rd σ σ' b w ∧ FO σ' b w
theorem rf_t {σ σ' σ'' : SS} {b : BT} {w : WT} (h : rf σ σ' b w) (h2 : rd σ' σ'' b w) : rf σ σ'' b w := ⟨rd_t h.1 h2, h2.2.2 h.2⟩
theorem rf_C {σ σ' : SS} {b : BT} {w : WT} (h : rf σ σ' b w) : CI0 σ' b w := h.1.2.1
theorem c_mixBeats {σ0 σ : SS} {b : BT} {w : WT} {K : SS → Int64 → Prop} (hB : BB b) (hWB : WB w) (hr : rf σ0 σ b w) {h0 : Int64} (h : ∀ σ', rf σ0 σ' b w → K σ' (itL (gB2 b) (bN b) h0)) : wp_X5_mixBeats σ h0 K := by
  have r := hB.1.1
  unfold wp_X5_mixBeats
  simp only [ize]
  refine fx3_i (fun σ1 x3 x5 => rf σ0 σ1 b w ∧ ∃ k : Nat, k ≤ bN b ∧ x5 = iz k ∧ x3 = itL (gB2 b) k h0) (fun _ _ x5 => 50 - x5.toNatClampNeg) ?_ _ _ _ ⟨hr, 0, Nat.zero_le _, rfl, rfl⟩
  rintro L σ1 x3 x5 ⟨hp, k, hk, rfl, rfl⟩ hL
  unfold lb_X5_mixBeats_5
  rw [(rf_C hp).1.1.1]
  simp only [ize]
  refine cle (by omega) (fun e => ?_) (fun e => ?_)
  · have e3 : k = bN b := by omega
    subst e3; exact h _ hp
  · have hk2 : k < bN b := by omega
    have hmu : 50 - (iz (k : Int) + iz 1).toNatClampNeg < 50 - (iz (k : Int)).toNatClampNeg := by
      rw [iz_s, iz_cl (by omega), iz_cl (by omega)]; omega
    refine fx4_i (fun σ2 x3 x5 x6 => rf σ0 σ2 b w ∧ x5 = iz k ∧ ∃ q : Nat, q ≤ 3 ∧ x6 = iz q ∧ x3 = itL (gB1 b k) q (itL (gB2 b) k h0)) (fun _ _ _ x6 => 50 - x6.toNatClampNeg) ?_ _ _ _ _ ⟨hp, rfl, 0, by omega, rfl, rfl⟩
    rintro L3 σ3 x3 x5 x6 ⟨hp3, rfl, q, hq, rfl, rfl⟩ hL3
    unfold lb_X5_mixBeats_17
    simp only [ize]
    refine clt (by omega) (fun e => ?_) (fun e => ?_)
    · have e3 : q = 3 := by omega
      subst e3
      exact hL _ _ _ ⟨hp3, k + 1, by omega, iz_s k, rfl⟩ hmu
    · refine c_came hB hWB (rf_C hp3) (by omega) (by omega) (fun σ4 hr4 => ?_)
      unfold wp_X5_mix
      refine hL3 _ _ _ _ ⟨rf_t hp3 hr4, rfl, q + 1, by omega, iz_s q, ?_⟩ ?_
      · rw [rCame, if_pos (by omega), Int.toNat_natCast]; rfl
      · rw [iz_s, iz_cl (by omega), iz_cl (by omega)]; omega
theorem c_mixNews {σ0 σ : SS} {b : BT} {w : WT} {K : SS → Int64 → Prop} (hB : BB b) (hWB : WB w) (hr : rf σ0 σ b w) {h0 : Int64} (h : ∀ σ', rf σ0 σ' b w → K σ' (itL (gN2 b) (nc b) h0)) : wp_X5_mixNews σ h0 K := by
  have r5 := nc_40 hB
  unfold wp_X5_mixNews
  simp only [ize]
  refine fx3_i (fun σ1 x3 x5 => rf σ0 σ1 b w ∧ ∃ k : Nat, k ≤ nc b ∧ x5 = iz k ∧ x3 = itL (gN2 b) k h0) (fun _ _ x5 => 50 - x5.toNatClampNeg) ?_ _ _ _ ⟨hr, 0, Nat.zero_le _, rfl, rfl⟩
  rintro L σ1 x3 x5 ⟨hp, k, hk, rfl, rfl⟩ hL
  unfold lb_X5_mixNews_5
  rw [hp.2.2.1.1.1]
  simp only [ize]
  refine cle (by omega) (fun e => ?_) (fun e => ?_)
  · have e3 : k = nc b := by omega
    subst e3; exact h _ hp
  · have hk2 : k < nc b := by omega
    have hmu : 50 - (iz (k : Int) + iz 1).toNatClampNeg < 50 - (iz (k : Int)).toNatClampNeg := by
      rw [iz_s, iz_cl (by omega), iz_cl (by omega)]; omega
    refine fx4_i (fun σ2 x3 x5 x6 => rf σ0 σ2 b w ∧ x5 = iz k ∧ ∃ q : Nat, q ≤ 3 ∧ x6 = iz q ∧ x3 = itL (gN1 b k) q (itL (gN2 b) k h0)) (fun _ _ _ x6 => 50 - x6.toNatClampNeg) ?_ _ _ _ _ ⟨hp, rfl, 0, by omega, rfl, rfl⟩
    rintro L3 σ3 x3 x5 x6 ⟨hp3, rfl, q, hq, rfl, rfl⟩ hL3
    unfold lb_X5_mixNews_20
    simp only [ize]
    refine clt (by omega) (fun e => ?_) (fun e => ?_)
    · have e3 : q = 3 := by omega
      subst e3
      unfold bl_X5_mixNews_46
      simp only [ize]
      refine c_expected hB hWB (rf_C hp3) (by omega) (by omega) (fun σ4 hr4 => ?_)
      have hp4 := rf_t hp3 hr4
      unfold wp_X5_mix
      refine c_expected hB hWB (rf_C hp4) (by omega) (by omega) (fun σ5 hr5 => ?_)
      refine hL _ _ _ ⟨rf_t hp4 hr5, k + 1, by omega, iz_s k, ?_⟩ hmu
      rw [rExp, if_pos (by omega), rExp, if_pos (by omega), Int.toNat_natCast]; rfl
    · refine c_news hB hWB (rf_C hp3) (by omega) (by omega) (fun σ4 hr4 => ?_)
      unfold wp_X5_mix
      refine hL3 _ _ _ _ ⟨rf_t hp3 hr4, rfl, q + 1, by omega, iz_s q, ?_⟩ ?_
      · rw [rNews, if_pos (by omega), Int.toNat_natCast]; rfl
      · rw [iz_s, iz_cl (by omega), iz_cl (by omega)]; omega
theorem c_mixWatcher {σ0 σ : SS} {b : BT} {w : WT} {K : SS → Int64 → Prop} (hB : BB b) (hWB : WB w) (hr : rf σ0 σ b w) {k : Nat} (hk : k < wN w) {h0 : Int64} (h : ∀ σ', rf σ0 σ' b w → K σ' (gW b w k h0)) : wp_X5_mixWatcher σ h0 (iz k) K := by
  have r := hWB.1
  have r5 := nc_40 hB
  have rmc := mc_le b (wS w k) (wM w k) (nc b)
  unfold wp_X5_mixWatcher
  simp only [ize]
  refine fx4_i (fun σ1 x3 x4 x6 => rf σ0 σ1 b w ∧ x3 = iz k ∧ ∃ q : Nat, q ≤ 10 ∧ x6 = iz q ∧ x4 = itL (gW1 b w k) q h0) (fun _ _ _ x6 => 50 - x6.toNatClampNeg) ?_ _ _ _ _ ⟨hr, rfl, 0, by omega, rfl, rfl⟩
  rintro L σ1 x3 x4 x6 ⟨hp, rfl, q, hq, rfl, rfl⟩ hL
  unfold lb_X5_mixWatcher_6
  simp only [ize]
  refine clt (by omega) (fun e => ?_) (fun e => ?_)
  · have e3 : q = 10 := by omega
    subst e3
    unfold bl_X5_mixWatcher_34
    simp only [ize]
    refine c_noticed hB hWB (rf_C hp) (by omega) (fun σ2 hr2 => ?_)
    have hp2 := rf_t hp hr2
    unfold wp_X5_mix
    refine c_longest hB hWB (rf_C hp2) (by omega) (fun σ3 hr3 => ?_)
    have hp3 := rf_t hp2 hr3
    rw [rNtc, if_pos (by omega), rLon, if_pos (by omega), Int.toNat_natCast]
    generalize hh1 : (31 * ((31 * itL (gW1 b w k) 10 h0) + (iz (ntc b (wS w k) (wM w k))).toInt64)) + (iz (gr b w k 1)).toInt64 = h1
    have h' : ∀ σ', rf σ0 σ' b w → K σ' (itL (gW4 b w k) (nc b) (itL (gW3 b w k) (mc b (wS w k) (wM w k) (nc b)) h1)) := by rw [← hh1]; exact h
    refine fx4_i (fun σ2 x3 x4 x6 => rf σ0 σ2 b w ∧ x3 = iz k ∧ ∃ j : Nat, j ≤ mc b (wS w k) (wM w k) (nc b) ∧ x6 = iz j ∧ x4 = itL (gW3 b w k) j h1) (fun _ _ _ x6 => 50 - x6.toNatClampNeg) ?_ _ _ _ _ ⟨hp3, rfl, 0, Nat.zero_le _, rfl, rfl⟩
    rintro L2 σ4 x3 x4 x6 ⟨hp4, rfl, j, hj, rfl, rfl⟩ hL2
    unfold lb_X5_mixWatcher_63
    rw [iz_cl (show k < 2147483648 by omega), show 26 + 6 * k + 1 = 27 + 6 * k by omega, (hp4.2.2.2 k hk).1.1]
    simp only [ize]
    refine ⟨iz_in (by omega), cle (by omega) (fun e => ?_) (fun e => ?_)⟩
    · have e3 : j = mc b (wS w k) (wM w k) (nc b) := by omega
      subst e3
      generalize itL (gW3 b w k) (mc b (wS w k) (wM w k) (nc b)) h1 = h2 at h'
      refine fx4_i (fun σ2 x3 x4 x6 => rf σ0 σ2 b w ∧ x3 = iz k ∧ ∃ i : Nat, i ≤ nc b ∧ x6 = iz i ∧ x4 = itL (gW4 b w k) i h2) (fun _ _ _ x6 => 50 - x6.toNatClampNeg) ?_ _ _ _ _ ⟨hp4, rfl, 0, Nat.zero_le _, rfl, rfl⟩
      rintro L3 σ5 x3 x4 x6 ⟨hp5, rfl, i, hi, rfl, rfl⟩ hL3
      unfold lb_X5_mixWatcher_121
      rw [hp5.2.2.1.1.1]
      simp only [ize]
      refine cle (by omega) (fun e => ?_) (fun e => ?_)
      · have e3 : i = nc b := by omega
        subst e3
        exact h' _ hp5
      · refine c_limit hB hWB (rf_C hp5) (by omega) (by omega) (fun σ6 hr6 => ?_)
        unfold wp_X5_mix
        refine hL3 _ _ _ _ ⟨rf_t hp5 hr6, rfl, i + 1, by omega, iz_s i, ?_⟩ ?_
        · rw [rLim, if_pos (by omega), Int.toNat_natCast, Int.toNat_natCast]; rfl
        · rw [iz_s, iz_cl (by omega), iz_cl (by omega)]; omega
    · have hj2 : j < mc b (wS w k) (wM w k) (nc b) := by omega
      have hmu : 50 - (iz (j : Int) + iz 1).toNatClampNeg < 50 - (iz (j : Int)).toNatClampNeg := by
        rw [iz_s, iz_cl (by omega), iz_cl (by omega)]; omega
      refine fx5_i (fun σ2 x3 x4 x6 x7 => rf σ0 σ2 b w ∧ x3 = iz k ∧ x6 = iz j ∧ ∃ q : Nat, q ≤ 3 ∧ x7 = iz q ∧ x4 = itL (gW2 b w k j) q (itL (gW3 b w k) j h1)) (fun _ _ _ _ x7 => 50 - x7.toNatClampNeg) ?_ _ _ _ _ _ ⟨hp4, rfl, rfl, 0, by omega, rfl, rfl⟩
      rintro L3 σ5 x3 x4 x6 x7 ⟨hp5, rfl, rfl, q, hqq, rfl, rfl⟩ hL3
      unfold lb_X5_mixWatcher_83
      simp only [ize]
      refine clt (by omega) (fun e => ?_) (fun e => ?_)
      · have e3 : q = 3 := by omega
        subst e3
        exact hL2 _ _ _ _ ⟨hp5, rfl, j + 1, by omega, iz_s j, rfl⟩ hmu
      · refine c_ledger hB hWB (rf_C hp5) (by omega) (by omega) (by omega) (fun σ6 hr6 => ?_)
        unfold wp_X5_mix
        refine hL3 _ _ _ _ _ ⟨rf_t hp5 hr6, rfl, rfl, q + 1, by omega, iz_s q, ?_⟩ ?_
        · unfold rLed
          simp only [Int.toNat_natCast]
          rw [if_pos (by omega)]; rfl
        · rw [iz_s, iz_cl (by omega), iz_cl (by omega)]; omega
  · refine c_info hB hWB (rf_C hp) (by omega) (by omega) (fun σ2 hr2 => ?_)
    unfold wp_X5_mix
    refine hL _ _ _ _ ⟨rf_t hp hr2, rfl, q + 1, by omega, iz_s q, ?_⟩ ?_
    · rw [rInf, if_pos (by omega), Int.toNat_natCast]; rfl
    · rw [iz_s, iz_cl (by omega), iz_cl (by omega)]; omega
theorem c_digest {σ : SS} {b : BT} {w : WT} {K : SS → Int64 → Prop} (hB : BB b) (hWB : WB w) (hC : CI0 σ b w) (h : ∀ σ', rd σ σ' b w → K σ' (dgs b w (gI σ 0 8))) : wp_X5_digest σ K := by
  have r := hWB.1
  unfold wp_X5_digest
  simp only [ize]
  refine c_followArrivals hB hWB hC (fun σ1 hq1 hC1 hF1 => ?_)
  have hr1 : rf σ σ1 b w := ⟨rd_f hq1 hC1 hF1, hF1⟩
  have h : ∀ σ', rf σ σ' b w → K σ' (dgs b w (gI σ 0 8)) := fun σ' hr => h σ' hr.1
  have hfn : ∀ σ', rf σ σ' b w → gI σ' 0 8 = gI σ 0 8 := fun σ' hr => (hr.1.1.1.1 8).resolve_left (by decide)
  generalize gI σ 0 8 = fn at h hfn
  unfold dgs at h
  refine fx3_i (fun σ2 x1 x3 => rf σ σ2 b w ∧ ∃ q : Nat, q ≤ 8 ∧ x3 = iz q ∧ x1 = itL (gC b w fn) q 17) (fun _ _ x3 => 50 - x3.toNatClampNeg) ?_ _ _ _ ⟨hr1, 0, by omega, rfl, rfl⟩
  rintro L σ2 x1 x3 ⟨hp, q, hq, rfl, rfl⟩ hL
  unfold lb_X5_digest_10
  simp only [ize]
  refine clt (by omega) (fun e => ?_) (fun e => ?_)
  · have e3 : q = 8 := by omega
    subst e3
    generalize itL (gC b w fn) 8 17 = h1 at h
    unfold bl_X5_digest_33
    refine c_mixBeats hB hWB hp (fun σ3 hp3 => c_mixNews hB hWB hp3 (fun σ4 hp4 => ?_))
    generalize itL (gN2 b) (nc b) (itL (gB2 b) (bN b) h1) = h2 at h
    simp only [ize]
    refine fx3_i (fun σ2 x1 x3 => rf σ σ2 b w ∧ ∃ k : Nat, k ≤ wN w ∧ x3 = iz k ∧ x1 = itL (gW b w) k h2) (fun _ _ x3 => 50 - x3.toNatClampNeg) ?_ _ _ _ ⟨hp4, 0, Nat.zero_le _, rfl, rfl⟩
    rintro L2 σ5 x1 x3 ⟨hp5, k, hk, rfl, rfl⟩ hL2
    unfold lb_X5_digest_47
    rw [(rf_C hp5).1.2.1]
    simp only [ize]
    refine cle (by omega) (fun e => ?_) (fun e => ?_)
    · have e3 : k = wN w := by omega
      subst e3
      generalize itL (gW b w) (wN w) h2 = h3 at h
      refine fx3_i (fun σ2 x1 x3 => rf σ σ2 b w ∧ ∃ j : Nat, j ≤ 21 ∧ x3 = iz ((50 * j : Nat) : Int) ∧ x1 = itL (gT b w) j h3) (fun _ _ x3 => 2000 - x3.toNatClampNeg) ?_ _ _ _ ⟨hp5, 0, by omega, rfl, rfl⟩
      rintro L3 σ6 x1 x3 ⟨hp6, j, hj, rfl, rfl⟩ hL3
      unfold lb_X5_digest_70
      simp only [ize]
      refine clt (by omega) (fun e => ?_) (fun e => ?_)
      · have e3 : j = 21 := by omega
        subst e3
        generalize itL (gT b w) 21 h3 = h4 at h
        refine fx3_i (fun σ2 x1 x3 => rf σ σ2 b w ∧ ∃ q : Nat, q ≤ 3 ∧ x3 = iz q ∧ x1 = itL (gS b) q h4) (fun _ _ x3 => 50 - x3.toNatClampNeg) ?_ _ _ _ ⟨hp6, 0, by omega, rfl, rfl⟩
        rintro L4 σ7 x1 x3 ⟨hp7, q, hq, rfl, rfl⟩ hL4
        unfold lb_X5_digest_118
        simp only [ize]
        refine clt (by omega) (fun e => ?_) (fun e => ?_)
        · have e3 : q = 3 := by omega
          subst e3
          unfold bl_X5_digest_153 wp_X5_mix
          refine c_shared hB hWB (rf_C hp7) (fun σ8 hr8 => ?_)
          have hp8 := rf_t hp7 hr8
          exact c_saved hB hWB (rf_C hp8) (fun σ9 hr9 => h _ (rf_t hp8 hr9))
        · refine c_least hB hWB (rf_C hp7) (by omega) (by omega) (fun σ8 hr8 => ?_)
          have hp8 := rf_t hp7 hr8
          unfold wp_X5_mix
          refine c_least hB hWB (rf_C hp8) (by omega) (by omega) (fun σ9 hr9 => ?_)
          refine hL4 _ _ _ ⟨rf_t hp8 hr9, q + 1, by omega, iz_s q, ?_⟩ ?_
          · rw [rLst, if_pos (by omega), rLst, if_pos (by omega)]; rfl
          · rw [iz_s, iz_cl (by omega), iz_cl (by omega)]; omega
      · refine c_doubts hB hWB (rf_C hp6) (by omega) (fun σ8 hr8 => ?_)
        have hp8 := rf_t hp6 hr8
        unfold wp_X5_mix
        refine c_score hB hWB (rf_C hp8) (by omega) (by omega) (fun σ9 hr9 => ?_)
        have hp9 := rf_t hp8 hr9
        refine c_score hB hWB (rf_C hp9) (by omega) (by omega) (fun σ10 hr10 => ?_)
        have e50 : iz ((50 * j : Nat) : Int) + iz 50 = iz ((50 * (j + 1) : Nat) : Int) := by rw [iz_add]; congr 1
        refine hL3 _ _ _ ⟨rf_t hp9 hr10, j + 1, by omega, e50, ?_⟩ ?_
        · rw [rDts, if_pos (by omega), rSc, if_pos (by omega), rSc, if_pos (by omega)]; rfl
        · rw [e50, iz_cl (by omega), iz_cl (by omega)]; omega
    · refine c_mixWatcher hB hWB hp5 (by omega) (fun σ6 hp6 => ?_)
      refine hL2 _ _ _ ⟨hp6, k + 1, by omega, iz_s k, rfl⟩ ?_
      rw [iz_s, iz_cl (by omega), iz_cl (by omega)]; omega
  · refine c_count hB hWB (rf_C hp) (by omega) (fun σ3 hr3 => ?_)
    unfold wp_X5_mix
    rw [hfn _ hp]
    refine hL _ _ _ ⟨rf_t hp hr3, q + 1, by omega, iz_s q, rfl⟩ ?_
    rw [iz_s, iz_cl (by omega), iz_cl (by omega)]; omega
