/-! ===== the reference: gaps, expected, limits, a watcher gone through ===== -/
theorem m_gapsBy {τ : SS} {b : BT} {K : SS → Int32 → Prop} (hM : MB τ b) (hB : BB b) {i : Nat} (hi : i < 40) (h : K τ (iz (gp b i))) : wp_X6_gapsBy τ (iz i) K := by
  have r := hB.2.2.2
  unfold wp_X6_gapsBy
  simp only [hM.2.2.2.1]
  refine cle (by omega) (fun e => ?_) (fun e => ?_)
  · rw [show gp b i = bW b by unfold gp; omega] at h; exact h
  · rw [show gp b i = i by unfold gp; omega] at h; exact h
theorem m_gapAt {τ : SS} {b : BT} {K : SS → Int32 → Prop} (hN : MN τ b) (hB : BB b) {i k : Nat} (hi : i < nc b) (hk : k < i) (h : K τ (iz (gap b i k))) : wp_X6_gapAt τ (iz i) (iz k) K := by
  have r := nc_40 hB
  have e1 : (i : Int) - (k : Int) = ((i - k : Nat) : Int) := by omega
  have e2 : ((i - k : Nat) : Int) - 1 = ((i - k - 1 : Nat) : Int) := by omega
  unfold wp_X6_gapAt
  simp only [ize, iz_sub, e1, e2]
  rw [iz_cl (by omega), iz_cl (by omega), (hN.2 (i - k) (by omega)).2, (hN.2 (i - k - 1) (by omega)).2, iz_sub]
  exact ⟨iz_in (by omega), iz_in (by omega), h⟩
theorem m_belowBy {τ : SS} {b : BT} {K : SS → Int32 → Prop} (hM : MB τ b) (hB : BB b) {i : Nat} (hi : i < 40) (h : K τ (iz (bl b i))) : wp_X6_belowBy τ (iz i) K := by
  have r := hB.2.2.2
  unfold wp_X6_belowBy
  simp only [ize, hM.2.2.2.1, iz_s]
  refine cle (by omega) (fun e => ?_) (fun e => ?_)
  · rw [show bl b i = bW b by unfold bl; omega] at h; exact h
  · rw [show bl b i = i + 1 by unfold bl; omega] at h; exact h
theorem m_aboveBy {τ : SS} {b : BT} {K : SS → Int32 → Prop} (hM : MB τ b) (hN : MN τ b) (hB : BB b) {i : Nat} (hi : i < nc b) (h : K τ (iz (ab b i))) : wp_X6_aboveBy τ (iz i) K := by
  have r := nc_40 hB
  have rb := bl_rng hB i
  unfold wp_X6_aboveBy
  refine m_belowBy hM hB (by omega) ⟨iz_in (by omega), ?_⟩
  simp only [ize, hM.2.2.1]
  rw [iz_cl (by omega), (hN.2 i hi).1]
  simp only [iz_mul, iz_add]
  refine fx5_i (fun σ x1 x2 x3 x4 => σ = τ ∧ x1 = iz i ∧ x2 = iz (bl b i) ∧ ∃ k : Nat, k ≤ bl b i ∧ x4 = iz k ∧ x3 = iz ((bl b i : Int) * bP b * ((nb b i : Int) + 1) + fb_si (fun k => dy b (i - k)) k)) (fun _ _ _ _ x4 => 50 - x4.toNatClampNeg) ?_ _ _ _ _ _ ⟨rfl, rfl, rfl, 0, Nat.zero_le _, rfl, by simp [fb_si]⟩
  rintro L σ x1 x2 x3 x4 ⟨rfl, rfl, rfl, k, hk, rfl, rfl⟩ hL
  unfold lb_X6_aboveBy_25
  refine cle (by omega) (fun e => ?_) (fun e => ?_)
  · rw [show k = bl b i by omega]; exact h
  · have e1 : (i : Int) - (k : Int) = ((i - k : Nat) : Int) := by omega
    simp only [ize, iz_sub, e1, hM.2.2.1]
    rw [iz_cl (by omega), (hN.2 (i - k) (by omega)).2, (hN.2 (i - k) (by omega)).1]
    refine ⟨iz_in (by omega), iz_in (by omega), ?_⟩
    refine hL _ _ _ _ _ ⟨rfl, rfl, rfl, k + 1, by omega, iz_s k, ?_⟩ ?_
    · rw [iz_mul, iz_sub, iz_add, fb_si_succ, Int.add_assoc]; rfl
    · rw [iz_s, iz_cl (by omega), iz_cl (by omega)]; omega
theorem lt_le (b : BT) (i : Nat) (far : Int) : lt b i far ≤ gp b i := fb_ct_le _ _
theorem m_lessThan {τ : SS} {b : BT} {K : SS → Int32 → Prop} (hM : MB τ b) (hN : MN τ b) (hB : BB b) {i : Nat} (hi : i < nc b) {far : Int} (hf : -100000 ≤ far ∧ far ≤ 100000) (h : K τ (iz (lt b i far))) : wp_X6_lessThan τ (iz i) (iz far) K := by
  have r := nc_40 hB
  have rg := gp_rng hB i
  unfold wp_X6_lessThan
  simp only [ize]
  refine fx5_i (fun σ x1 x2 x3 x4 => σ = τ ∧ x1 = iz i ∧ x2 = iz far ∧ ∃ k : Nat, k ≤ gp b i ∧ x4 = iz k ∧ x3 = iz (fb_ct (fun k => decide (gap b i k < far)) k)) (fun _ _ _ _ x4 => 50 - x4.toNatClampNeg) ?_ _ _ _ _ _ ⟨rfl, rfl, rfl, 0, Nat.zero_le _, rfl, rfl⟩
  rintro L σ x1 x2 x3 x4 ⟨rfl, rfl, rfl, k, hk, rfl, rfl⟩ hL
  unfold lb_X6_lessThan_5
  simp only [ize]
  refine m_gapsBy hM hB (by omega) (cle (by omega) (fun e => ?_) (fun e => ?_))
  · rw [show k = gp b i by omega]; exact h
  · refine m_gapAt hN hB hi (by omega) ?_
    have rr := gap_rng hB (k := k) hi
    have hc := fb_ct_le (fun k => decide (gap b i k < far)) k
    have hmu : 50 - (iz (k : Int) + iz 1).toNatClampNeg < 50 - (iz (k : Int)).toNatClampNeg := by
      rw [iz_s, iz_cl (by omega), iz_cl (by omega)]; omega
    refine cle (by omega) (fun e2 => ?_) (fun e2 => ?_)
    · refine hL _ _ _ _ _ ⟨rfl, rfl, rfl, k + 1, by omega, iz_s k, ?_⟩ hmu
      rw [fb_ct_succ, show decide (gap b i k < far) = false by simp; omega, iz_add]; simp
    · refine hL _ _ _ _ _ ⟨rfl, rfl, rfl, k + 1, by omega, iz_s k, ?_⟩ hmu
      rw [fb_ct_succ, show decide (gap b i k < far) = true by simp; omega, iz_s]; rfl
theorem m_up {τ : SS} {K : SS → Int32 → Prop} {a c : Int} (ha : 0 ≤ a ∧ a ≤ 100000) (hc : 1 ≤ c ∧ c ≤ 100) (h : K τ (iz (up a c))) : wp_X6_up τ (iz a) (iz c) K := by
  unfold wp_X6_up
  simp only [ize, iz_add, iz_sub]
  rw [iz_eq (by omega), iz_div (by omega)]
  exact ⟨by omega, h⟩
theorem m_tenthsBy {τ : SS} {b : BT} {K : SS → Int32 → Prop} (hM : MB τ b) (hN : MN τ b) (hB : BB b) {i : Nat} (hi : i < nc b) {t : Int} (ht : 0 ≤ t ∧ t ≤ 10) (h : K τ (iz (ten b i t))) : wp_X6_tenthsBy τ (iz i) (iz t) K := by
  have r := nc_40 hB
  have rg := gp_rng hB i
  unfold wp_X6_tenthsBy
  simp only [ize]
  refine fx5_i (fun σ x1 x2 x3 x4 => σ = τ ∧ x1 = iz i ∧ x2 = iz t ∧ ∃ k : Nat, k ≤ gp b i ∧ x4 = iz k ∧ x3 = iz (tnF b i t k)) (fun _ _ _ _ x4 => 50 - x4.toNatClampNeg) ?_ _ _ _ _ _ ⟨rfl, rfl, rfl, 0, Nat.zero_le _, rfl, rfl⟩
  rintro L σ x1 x2 x3 x4 ⟨rfl, rfl, rfl, k, hk, rfl, rfl⟩ hL
  unfold lb_X6_tenthsBy_5
  simp only [ize]
  refine m_gapsBy hM hB (by omega) (cle (by omega) (fun e => ?_) (fun e => ?_))
  · rw [show k = gp b i by omega]; exact h
  · refine m_gapAt hN hB hi (by omega) ?_
    have rr := gap_rng hB (k := k) hi
    have rt := tnF_rng hB hi t k
    have rl := lt_le b i (gap b i k + 1)
    rw [iz_add]
    refine m_lessThan hM hN hB hi (by omega) (m_gapsBy hM hB (by omega) ?_)
    have rm := mul_rng (x := t) (y := (gp b i : Int)) (A := 10) (B := 16) ht (by omega)
    have hmu : 50 - (iz (k : Int) + iz 1).toNatClampNeg < 50 - (iz (k : Int)).toNatClampNeg := by
      rw [iz_s, iz_cl (by omega), iz_cl (by omega)]; omega
    have go : ∀ y, y = iz (tnF b i t (k + 1)) → L σ (iz i) (iz t) y (iz k + iz 1) := fun y hy => hL _ _ _ _ _ ⟨rfl, rfl, rfl, k + 1, by omega, iz_s k, hy⟩ hmu
    simp only [iz_mul, bl_X6_tenthsBy_51, ize]
    refine clt (by omega) (fun e2 => ?_) (fun e2 => ?_)
    · refine ⟨fun _ => go _ ?_, fun q => absurd trivial q⟩
      rw [show tnF b i t (k + 1) = tnF b i t k from if_neg (by omega)]
    · refine ⟨fun q => absurd q (by decide), fun _ => ceq (by omega) (fun e3 => go _ ?_) (fun e3 => cle (by omega) (fun e4 => go _ ?_) (fun e4 => go _ ?_))⟩
      · rw [show tnF b i t (k + 1) = gap b i k from if_pos ⟨by omega, Or.inl e3⟩]
      · rw [show tnF b i t (k + 1) = tnF b i t k from if_neg (by omega)]
      · rw [show tnF b i t (k + 1) = gap b i k from if_pos ⟨by omega, Or.inr (by omega)⟩]
theorem m_limitBy {τ : SS} {b : BT} {K : SS → Int32 → Prop} (hM : MB τ b) (hN : MN τ b) (hB : BB b) {so ms : Int} (hw : okW so ms) {i m : Nat} (hi : i < nc b) (hm : m ≤ 40) (hc : gI τ 100 15 = iz m) (h : K τ (iz (lim b so ms i m))) : wp_X6_limitBy τ (iz so) (iz ms) (iz i) K := by
  have r := nc_40 hB
  have rb := bl_rng hB i
  have ra := ab_rng hB hi
  have rg := gp_rng hB i
  have hso : (0 ≤ so ∧ so ≤ 3) ∧ 0 ≤ ms ∧ ms ≤ 200 := by rcases hw with w | w | w | w <;> omega
  unfold wp_X6_limitBy
  rw [iz_cl (by omega), (hN.2 i hi).2]
  simp only [ize]
  refine ⟨iz_in (by omega), ?_, ?_, ?_, ?_⟩
  · rw [iz_eq (by omega)]
    intro e
    refine m_aboveBy hM hN hB hi (m_belowBy hM hB (by omega) (m_up (by omega) (by omega) ?_))
    rw [iz_add]
    rw [show lim b so ms i m = up (ab b i) (bl b i) + ms by simp [lim, e]] at h; exact h
  · rw [iz_eq (by omega)]
    intro e
    refine m_gapsBy hM hB (by omega) (cne (by omega) (fun e2 => ?_) (fun e2 => ?_))
    · refine m_tenthsBy hM hN hB hi (by rcases hw with w | w | w | w <;> omega) ?_
      rw [iz_add, iz_add]
      rw [show lim b so ms i m = nt b i + ten b i ms + 1 by simp [lim, e, show ¬ gp b i = 0 by omega]] at h; exact h
    · rw [show lim b so ms i m = -1 by simp [lim, e, show gp b i = 0 by omega]] at h; exact h
  · rw [iz_eq (by omega)]
    intro e
    rw [iz_add]
    rw [show lim b so ms i m = nt b i + ms by simp [lim, e]] at h; exact h
  · rw [iz_eq (by omega), iz_eq (by omega), iz_eq (by omega)]
    intro e1 e2 e3
    refine m_aboveBy hM hN hB hi (m_belowBy hM hB (by omega) (m_up (by omega) (by omega) ?_))
    rw [hc, iz_add, iz_mul, iz_add]
    rw [show lim b so ms i m = up (ab b i) (bl b i) + ms * ((m : Int) + 1) by simp [lim, e1, e2, e3]] at h; exact h
/-- a watcher gone through: what the reference's rows and numbers hold then -/
def MD (τ : SS) (b : BT) (so ms : Int) : Prop := (gI τ 100 15 = iz (mc b so ms (nc b)) ∧ gI τ 100 16 = iz (al b so ms (nc b)) ∧ gI τ 100 17 = iz (mo b so ms (nc b)) ∧ gI τ 100 18 = iz (lg b so ms (nc b))) ∧ ∀ i, i < nc b → gA τ 108 i = iz (bg b so ms i) ∧ gA τ 109 i = bz (mi b so ms i)
theorem m_goes {τ : SS} {b : BT} {K : SS → Prop} (hM : MB τ b) (hB : BB b) {so ms : Int} (hw : okW so ms) (h : ∀ τ', pe τ τ' → MN τ' b → MD τ' b so ms → K τ') : wp_X6_goes τ (iz so) (iz ms) K := by
  have r := nc_40 hB
  unfold wp_X6_goes
  refine m_findsNews hM hB (fun τ1 hp1 hN1 _ => ?_)
  simp only [ize]
  refine fx4_i (fun σ x1 x2 x3 => x1 = iz so ∧ x2 = iz ms ∧ pe τ σ ∧ MN σ b ∧ ∃ i : Nat, i ≤ nc b ∧ x3 = iz i ∧ (gI σ 100 15 = iz (mc b so ms i) ∧ gI σ 100 16 = iz (al b so ms i) ∧ gI σ 100 17 = iz (mo b so ms i) ∧ gI σ 100 18 = iz (lg b so ms i)) ∧ ∀ j, j < i → gA σ 108 j = iz (bg b so ms j) ∧ gA σ 109 j = bz (mi b so ms j)) (fun _ _ _ x3 => 50 - x3.toNatClampNeg) ?_ _ _ _ _ ⟨rfl, rfl, ?_, ?_, 0, Nat.zero_le _, rfl, ⟨?_, ?_, ?_, ?_⟩, fun j hj => absurd hj (Nat.not_lt_zero j)⟩
  · rintro L σ x1 x2 x3 ⟨rfl, rfl, hp, hN, i, hi, rfl, ⟨h15, h16, h17, h18⟩, ha⟩ hL
    have hM2 := MB_pe hp hM
    have hci := mc_le b so ms i
    unfold lb_X6_goes_26
    simp only [ize, hN.1]
    refine cle (by omega) (fun e => ?_) (fun e => ?_)
    · have e3 : i = nc b := by omega
      subst e3
      exact h σ hp hN ⟨⟨h15, h16, h17, h18⟩, ha⟩
    · have hi2 : i < nc b := by omega
      have rn := nt_rng hB hi2
      have rl := lim_rng hB hw (m := mc b so ms i) hi2 (by omega)
      have rb := bg_rng hB hw hi2
      have rp := pn_rng hB hi2
      have rlg := lg_rng hB hw i (by omega)
      have rmo := mo_rng hB hw i
      have hmu : 50 - (iz (i : Int) + iz 1).toNatClampNeg < 50 - (iz (i : Int)).toNatClampNeg := by
        rw [iz_s, iz_cl (by omega), iz_cl (by omega)]; omega
      have key : bl_X6_goes_75 K L σ (iz so) (iz ms) (iz i) (iz (bg b so ms i)) := by
        have k124 : bl_X6_goes_124 K L (sA σ 108 i (iz (bg b so ms i))) (iz so) (iz ms) (iz i) (iz (bg b so ms i)) (bz (mi b so ms i)) (iz i) := by
          have k166 : ∀ y, y = iz (lg b so ms (i + 1)) → bl_X6_goes_166 K L (sA (sA σ 108 i (iz (bg b so ms i))) 109 i (bz (mi b so ms i))) (iz so) (iz ms) (iz i) (iz (bg b so ms i)) y := by
            intro y hy
            have go : ∀ σ', σ'.2 = (sA (sA σ 108 i (iz (bg b so ms i))) 109 i (bz (mi b so ms i))).2 → (∀ k, (k = 15 ∨ k = 16 ∨ k = 17 ∨ k = 18) ∨ gI σ' 100 k = gI σ 100 k) → gI σ' 100 15 = iz (mc b so ms (i + 1)) → gI σ' 100 16 = iz (al b so ms (i + 1)) → gI σ' 100 17 = iz (mo b so ms (i + 1)) → gI σ' 100 18 = iz (lg b so ms (i + 1)) → L σ' (iz so) (iz ms) (iz i + iz 1) := by
              intro σ' hs hk g15 g16 g17 g18
              have hA : ∀ p, gA σ' p = gA (sA (sA σ 108 i (iz (bg b so ms i))) 109 i (bz (mi b so ms i))) p := fun p => by unfold gA; rw [hs]
              refine hL _ _ _ _ ⟨rfl, rfl, pe_t hp ⟨fun k => ?_, fun p => ?_, ?_⟩, ⟨?_, fun j hj => ?_⟩, i + 1, by omega, iz_s i, ⟨g15, g16, g17, g18⟩, fun j hj => ?_⟩ hmu
              · rcases hk k with q | q
                · left; omega
                · exact Or.inr q
              · by_cases q1 : p = 108
                · exact Or.inl (by omega)
                · by_cases q2 : p = 109
                  · exact Or.inl (by omega)
                  · right; rw [hA, gA_sA_p _ _ _ _ q2, gA_sA_p _ _ _ _ q1]
              · rw [show σ'.2.2 = (sA (sA σ 108 i (iz (bg b so ms i))) 109 i (bz (mi b so ms i))).2.2 by rw [hs]]; rfl
              · rw [(hk 7).resolve_left (by decide)]; exact hN.1
              · rw [hA, hA, gA_sA_p _ _ _ _ (by decide : (102 : Nat) ≠ 109), gA_sA_p _ _ _ _ (by decide : (102 : Nat) ≠ 108), gA_sA_p _ _ _ _ (by decide : (103 : Nat) ≠ 109), gA_sA_p _ _ _ _ (by decide : (103 : Nat) ≠ 108)]
                exact hN.2 j hj
              · rw [hA, hA, gA_sA_p _ _ _ _ (by decide : (108 : Nat) ≠ 109), gA_sA_s, gA_sA_s, gA_sA_p _ _ _ _ (by decide : (109 : Nat) ≠ 108)]
                by_cases q : j = i
                · subst q; rw [upd_s, upd_s]; exact ⟨rfl, rfl⟩
                · rw [upd_n _ _ q, upd_n _ _ q]; exact ha j (by omega)
            unfold bl_X6_goes_166
            rw [iz_cl (show i < 2147483648 by omega), gA_sA_s, upd_s]
            simp only [ize]
            refine ⟨iz_in (by omega), bz_d (fun e2 => ?_) (fun e2 => ?_)⟩
            · have hm := mi_iff.mp e2
              have rw2 := wide_rng hB hw e2
              have rn2 := nt_rng hB hm.2.1
              rw [iz_s, iz_cl (by omega), gA_sA_p _ _ _ _ (by decide : (103 : Nat) ≠ 109), gA_sA_p _ _ _ _ (by decide : (103 : Nat) ≠ 108), (hN.2 _ hm.2.1).2, iz_sub]
              simp only [gI_sI, gI_sA, h15, h16, h17, h18]
              refine ⟨iz_in (by omega), cle (by omega) (fun e3 => ?_) (fun e3 => ?_)⟩
              · rw [← iz_s]
                refine go _ rfl (fun k => ?_) ?_ ?_ ?_ ?_
                · by_cases q : k = 15 ∨ k = 16 ∨ k = 17 ∨ k = 18
                  · exact Or.inl q
                  · right; simp only [gI_sI, gI_sA]; simp only [not_or] at q; simp [q]
                · simp only [gI_sI]; rw [mc_succ, e2]; simp [iz_s]
                · simp only [gI_sI]; simp [al, e2, iz_add]
                · simp only [gI_sI]; simp only [mo, e2]; simp; rw [if_neg (by omega)]
                · simp only [gI_sI]; simp [hy]
              · rw [← iz_s]
                refine go _ rfl (fun k => ?_) ?_ ?_ ?_ ?_
                · by_cases q : k = 15 ∨ k = 16 ∨ k = 17 ∨ k = 18
                  · exact Or.inl q
                  · right; simp only [gI_sI, gI_sA]; simp only [not_or] at q; simp [q]
                · simp only [gI_sI]; rw [mc_succ, e2]; simp [iz_s]
                · simp only [gI_sI]; simp [al, e2, iz_add]
                · simp only [gI_sI]; simp only [mo, e2]; simp; rw [if_pos (by omega)]
                · simp only [gI_sI]; simp [hy]
            · refine go _ rfl (fun k => ?_) ?_ ?_ ?_ ?_
              · by_cases q : k = 18
                · exact Or.inl (by omega)
                · right; rw [gI_sI_k _ _ _ _ q]; rfl
              · rw [gI_sI_k _ _ _ _ (by decide), mc_succ, e2]; exact h15
              · rw [gI_sI_k _ _ _ _ (by decide), gI_sA, gI_sA]; simp only [al, e2]; simpa using h16
              · rw [gI_sI_k _ _ _ _ (by decide), gI_sA, gI_sA]; simp only [mo, e2]; simpa using h17
              · rw [gI_sI_s, hy]
          unfold bl_X6_goes_124
          rw [iz_cl (show i < 2147483648 by omega), nar_z, gA_sA_p _ _ _ _ (by decide : (102 : Nat) ≠ 109), gA_sA_p _ _ _ _ (by decide : (102 : Nat) ≠ 108), (hN.2 i hi2).1, gI_sA, gI_sA, hM2.2.2.1, h18, iz_mul, iz_sub]
          simp only [ize]
          refine ⟨iz_in (by omega), iz_in (by omega), ceq (by omega) (fun e2 => k166 _ ?_) (fun e2 => cle (by omega) (fun e3 => k166 _ ?_) (fun e3 => k166 _ ?_))⟩
          · rw [show lg b so ms (i + 1) = lg b so ms i from if_neg (by omega)]
          · rw [show lg b so ms (i + 1) = lg b so ms i from if_neg (by omega)]
          · rw [show lg b so ms (i + 1) = bg b so ms i - bP b * (nb b i : Int) from if_pos ⟨e2, by omega⟩]
        unfold bl_X6_goes_75
        rw [iz_cl (show i < 2147483648 by omega)]
        simp only [ize, hN.1, iz_s]
        refine ⟨iz_in (by omega), ceq (by omega) (fun e2 => ?_) (fun e2 => cle (by omega) (fun e3 => ?_) (fun e3 => ?_))⟩
        · rw [show mi b so ms i = false by cases hh : mi b so ms i with | false => rfl | true => exact absurd e2 (mi_iff.mp hh).1] at k124; exact k124
        · rw [mi_last (by omega)] at k124; exact k124
        · have rn2 := nt_rng hB (show i + 1 < nc b by omega)
          rw [iz_cl (by omega), gA_sA_p _ _ _ _ (by decide : (103 : Nat) ≠ 108), (hN.2 (i + 1) (by omega)).2]
          refine ⟨iz_in (by omega), cle (by omega) (fun e4 => ?_) (fun e4 => ?_)⟩
          · rw [show mi b so ms i = false by cases hh : mi b so ms i with | false => rfl | true => have := (mi_iff.mp hh).2.2; omega] at k124; exact k124
          · rw [mi_iff.mpr ⟨e2, by omega, by omega⟩] at k124; exact k124
      refine m_limitBy hM2 hN hB hw hi2 (by omega) h15 ?_
      rw [iz_cl (by omega), (hN.2 i hi2).2]
      refine cne (by omega) (fun e2 => ⟨iz_in (by omega), cle (by omega) (fun e3 => ⟨iz_in (by omega), ?_⟩) (fun e3 => ?_)⟩) (fun e2 => ?_)
      · rw [show bg b so ms i = nt b i by unfold bg bgF; rw [if_neg e2, if_neg (by omega)]] at key; exact key
      · rw [show bg b so ms i = lim b so ms i (mc b so ms i) by unfold bg bgF; rw [if_neg e2, if_pos (by omega)]] at key; exact key
      · rw [show bg b so ms i = -1 by unfold bg bgF; rw [if_pos e2]] at key; exact key
  · refine pe_t hp1 ⟨fun k => ?_, fun p => Or.inr rfl, rfl⟩
    by_cases q : k = 15 ∨ k = 16 ∨ k = 17 ∨ k = 18
    · left; omega
    · right; simp only [gI_sI]; simp only [not_or] at q; simp [q]
  · exact ⟨by simp only [gI_sI]; simpa using hN1.1, fun i hi => hN1.2 i hi⟩
  · simp only [gI_sI]; simp [mc]
  · simp only [gI_sI]; simp [al]
  · simp only [gI_sI]; simp [mo]
  · simp only [gI_sI]; simp [lg]
