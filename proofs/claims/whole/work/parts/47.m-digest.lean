/-! ===== the reference: counts and the digest ===== -/
theorem m_lostMany {τ : SS} {b : BT} {K : SS → Int32 → Prop} (hM : MB τ b) (hB : BB b) (h : K τ (iz (fb_ct (lo b) (bN b)))) : wp_X6_lostMany τ K := by
  have r := hB.1.1
  unfold wp_X6_lostMany
  simp only [ize]
  refine fx3_i (fun σ x1 x2 => σ = τ ∧ ∃ k : Nat, k ≤ bN b ∧ x2 = iz k ∧ x1 = iz (fb_ct (lo b) k)) (fun _ _ x2 => 50 - x2.toNatClampNeg) ?_ _ _ _ ⟨rfl, 0, Nat.zero_le _, rfl, rfl⟩
  rintro L σ x1 x2 ⟨rfl, k, hk, rfl, rfl⟩ hL
  unfold lb_X6_lostMany_4
  simp only [ize, hM.1]
  refine cle (by omega) (fun e => ?_) (fun e => ?_)
  · have e3 : k = bN b := by omega
    subst e3; exact h
  · have hmu : 50 - (iz (k : Int) + iz 1).toNatClampNeg < 50 - (iz (k : Int)).toNatClampNeg := by
      rw [iz_s, iz_cl (by omega), iz_cl (by omega)]; omega
    refine m_isLost hM hB (by omega) (bz_d (fun e1 => ?_) (fun e1 => ?_))
    · exact hL _ _ _ ⟨rfl, k + 1, by omega, iz_s k, by rw [fb_ct_succ, e1, iz_s]; rfl⟩ hmu
    · exact hL _ _ _ ⟨rfl, k + 1, by omega, iz_s k, by rw [fb_ct_succ, e1, iz_add]; simp⟩ hmu
theorem m_newsNow {τ : SS} {b : BT} {K : SS → Int32 → Prop} (hM : MB τ b) (hB : BB b) (h : ∀ τ', pe τ τ' → MN τ' b → K τ' (iz (nc b))) : wp_X6_newsNow τ K := by
  unfold wp_X6_newsNow
  refine m_findsNews hM hB (fun τ1 hp hN _ => ?_)
  rw [hN.1]
  exact h τ1 hp hN
/-- mistakes of the first n watchers -/
def msF (b : BT) (w : WT) : Nat → Int
  | 0 => 0
  | k + 1 => msF b w k + (mc b (wS w k) (wM w k) (nc b) : Int)
theorem msF_rng {b : BT} (hB : BB b) (w : WT) : ∀ k, 0 ≤ msF b w k ∧ msF b w k ≤ 40 * k
  | 0 => by simp [msF]
  | k + 1 => by
    have := msF_rng hB w k
    have := mc_le b (wS w k) (wM w k) (nc b)
    have := nc_40 hB
    unfold msF; omega
def cnt (b : BT) (w : WT) (fn : Int32) (q : Int) : Int32 :=
  if q = 0 then iz (bN b) else if q = 1 then iz (fb_ct (lo b) (bN b)) else if q = 2 then iz (nc b) else if q = 3 then iz (wN w) else if q = 4 then iz (msF b w (wN w)) else if q = 5 then bitF (kpt b w) (wN w) else if q = 6 then (if nc b = 0 then iz (-1) else iz (nt b (nc b - 1))) else if q = 7 then iz (fb_ct (fun k => decide (¬ fg b (wS w k) (wM w k) = -1)) (wN w)) else if q = 8 then fn else iz (-2)
theorem m_overAll {τ : SS} {b : BT} {w : WT} {K : SS → Int32 → Prop} (hM : MB τ b) (hB : BB b) (hW : MW τ w) (hWB : WB w) {fn : Int32} {q : Int} (hq : q = 4 ∨ q = 5 ∨ q = 7) (h : ∀ τ', pe τ τ' → K τ' (cnt b w fn q)) : wp_X6_overAll τ (iz q) K := by
  have r := hWB.1
  have r5 := nc_40 hB
  have hcnt : cnt b w fn q = if q = 4 then iz (msF b w (wN w)) else if q = 5 then addF (kpt b w) (wN w) else iz (fb_ct (fun k => decide (¬ fg b (wS w k) (wM w k) = -1)) (wN w)) := by
    rcases hq with rfl | rfl | rfl
    · simp [cnt]
    · simp [cnt, add_bit _ r]
    · simp [cnt]
  unfold wp_X6_overAll
  refine fx4_i (fun σ x1 x2 x3 => pe τ σ ∧ x1 = iz q ∧ ∃ k : Nat, k ≤ wN w ∧ x3 = iz k ∧ x2 = (if q = 4 then iz (msF b w k) else if q = 5 then addF (kpt b w) k else iz (fb_ct (fun k => decide (¬ fg b (wS w k) (wM w k) = -1)) k))) (fun _ _ _ x3 => 50 - x3.toNatClampNeg) ?_ _ _ _ _ ⟨pe_r τ, rfl, 0, Nat.zero_le _, rfl, by rcases hq with rfl | rfl | rfl <;> rfl⟩
  rintro L σ x1 x2 x3 ⟨hp, rfl, k, hk, rfl, rfl⟩ hL
  have hW1 := MW_pe hp hW
  have hM1 := MB_pe hp hM
  unfold lb_X6_overAll_4
  rw [hW1.1]
  refine cle (by omega) (fun e => ?_) (fun e => ?_)
  · have e3 : k = wN w := by omega
    subst e3
    have := h σ hp
    rw [hcnt] at this; exact this
  · have hk2 : k < wN w := by omega
    have hw := (hWB.2 k hk2).1
    have rf := fg_rng hB hw
    have hmu : 50 - (iz (k : Int) + 1).toNatClampNeg < 50 - (iz (k : Int)).toNatClampNeg := by
      rw [ize.2.1, iz_s, iz_cl (by omega), iz_cl (by omega)]; omega
    rcases hq with rfl | rfl | rfl
    · refine ⟨fun e1 => absurd rfl e1, fun _ => m_infoOf (q := 4) hM1 hB hW1 hWB hk2 (by omega) (fun τ1 hp1 => ?_)⟩
      refine hL _ _ _ _ ⟨pe_t hp hp1, rfl, k + 1, by omega, iz_s k, ?_⟩ hmu
      simp only [if_true, iz_add]; rfl
    · refine ⟨fun _ => ⟨fun e1 => absurd rfl e1, fun _ => m_isKept hM1 hB hW1 hWB hk2 (fun τ1 hp1 => bz_d (fun e2 => ?_) (fun e2 => ?_))⟩, fun e1 => absurd e1 (by decide)⟩
      · refine hL _ _ _ _ ⟨pe_t hp hp1, rfl, k + 1, by omega, iz_s k, ?_⟩ hmu
        simp [addF, e2]
      · refine hL _ _ _ _ ⟨pe_t hp hp1, rfl, k + 1, by omega, iz_s k, ?_⟩ hmu
        simp [addF, e2]
    · refine ⟨fun _ => ⟨fun _ => m_forGood hM1 hB hW1 hWB hk2 (fun τ1 hp1 => ?_), fun e1 => absurd e1 (by decide)⟩, fun e1 => absurd e1 (by decide)⟩
      simp only [ize]
      refine cne (by omega) (fun e2 => ?_) (fun e2 => ?_)
      · refine hL _ _ _ _ ⟨pe_t hp hp1, rfl, k + 1, by omega, iz_s k, ?_⟩ hmu
        simp only [show ¬ (7 : Int) = 4 by decide, show ¬ (7 : Int) = 5 by decide, if_false]
        rw [fb_ct_succ, show decide (¬ fg b (wS w k) (wM w k) = -1) = true by simp [e2], iz_s]; rfl
      · refine hL _ _ _ _ ⟨pe_t hp hp1, rfl, k + 1, by omega, iz_s k, ?_⟩ hmu
        simp only [show ¬ (7 : Int) = 4 by decide, show ¬ (7 : Int) = 5 by decide, if_false]
        rw [fb_ct_succ, show decide (¬ fg b (wS w k) (wM w k) = -1) = false by simp [e2], iz_add]; simp
theorem m_count {τ : SS} {b : BT} {w : WT} {fn : Int32} {K : SS → Int32 → Prop} (hM : MB τ b) (hB : BB b) (hW : MW τ w) (hWB : WB w) (hF : gI τ 100 27 = fn) {q : Int} (hq : -2147483648 ≤ q ∧ q < 2147483648) (h : ∀ τ', pe τ τ' → K τ' (cnt b w fn q)) : wp_X6_count τ (iz q) K := by
  have r5 := nc_40 hB
  have h0 := h τ (pe_r τ)
  unfold wp_X6_count
  rw [hM.1, hW.1, hF]
  simp only [ize]
  refine ⟨?_, ?_, ?_, ?_, ?_, ?_, ?_, ?_, ?_, ?_⟩
  · rw [iz_eq (by omega)]; intro e; subst e; exact h0
  · rw [iz_eq (by omega)]; intro e; subst e; exact m_lostMany hM hB h0
  · rw [iz_eq (by omega)]; intro e; subst e; exact m_newsNow hM hB (fun τ1 hp _ => h τ1 hp)
  · rw [iz_eq (by omega)]; intro e; subst e; exact h0
  · rw [iz_eq (by omega)]; intro e; subst e; exact m_overAll hM hB hW hWB (fn := fn) (by omega) h
  · rw [iz_eq (by omega)]; intro e; subst e; exact m_overAll hM hB hW hWB (fn := fn) (by omega) h
  · rw [iz_eq (by omega)]; intro e; subst e
    refine m_newsNow hM hB (fun τ1 hp hN => ?_)
    have h1 := h τ1 hp
    rw [hN.1, iz_sub]
    refine cne (by omega) (fun e2 => ?_) (fun e2 => ?_)
    · have e1 : (nc b : Int) - 1 = ((nc b - 1 : Nat) : Int) := by omega
      rw [e1, iz_cl (by omega), (hN.2 _ (by omega)).2]
      refine ⟨iz_in (by omega), ?_⟩
      rw [show cnt b w fn 6 = iz (nt b (nc b - 1)) by simp [cnt, show ¬ nc b = 0 by omega]] at h1; exact h1
    · rw [show cnt b w fn 6 = iz (-1) by simp [cnt, show nc b = 0 by omega]] at h1; exact h1
  · rw [iz_eq (by omega)]; intro e; subst e; exact m_overAll hM hB hW hWB (fn := fn) (by omega) h
  · rw [iz_eq (by omega)]; intro e; subst e; exact h0
  · repeat rw [iz_eq (by omega)]
    intro e0 e1 e2 e3 e4 e5 e6 e7 e8
    rw [show cnt b w fn q = iz (-2) by simp [cnt, e0, e1, e2, e3, e4, e5, e6, e7, e8]] at h0; exact h0
/-- a loop over numbers: what each does to the digest so far -/
def itL (g : Nat → Int64 → Int64) : Nat → Int64 → Int64
  | 0, h => h
  | n + 1, h => g n (itL g n h)
theorem itL_s (g : Nat → Int64 → Int64) (n : Nat) (h : Int64) : itL g (n + 1) h = g n (itL g n h) := rfl
def gC (b : BT) (w : WT) (fn : Int32) (q : Nat) (h : Int64) : Int64 := 31 * h + (cnt b w fn q).toInt64
def gB1 (b : BT) (k q : Nat) (h : Int64) : Int64 := 31 * h + (iz (cm b k q)).toInt64
def gB2 (b : BT) (k : Nat) (h : Int64) : Int64 := itL (gB1 b k) 3 h
def gN1 (b : BT) (i q : Nat) (h : Int64) : Int64 := 31 * h + (iz (nwV b i q)).toInt64
def gN2 (b : BT) (i : Nat) (h : Int64) : Int64 := 31 * (31 * itL (gN1 b i) 3 h + exL b i 0) + exL b i 1
def gW1 (b : BT) (w : WT) (k q : Nat) (h : Int64) : Int64 := 31 * h + (iz (inf b w k q)).toInt64
def gW2 (b : BT) (w : WT) (k j q : Nat) (h : Int64) : Int64 := 31 * h + (iz (led b (wS w k) (wM w k) q (mp b (wS w k) (wM w k) j))).toInt64
def gW3 (b : BT) (w : WT) (k j : Nat) (h : Int64) : Int64 := itL (gW2 b w k j) 3 h
def gW4 (b : BT) (w : WT) (k i : Nat) (h : Int64) : Int64 := 31 * h + (iz (bg b (wS w k) (wM w k) i)).toInt64
def gW (b : BT) (w : WT) (k : Nat) (h : Int64) : Int64 := itL (gW4 b w k) (nc b) (itL (gW3 b w k) (mc b (wS w k) (wM w k) (nc b)) (31 * (31 * itL (gW1 b w k) 10 h + (iz (ntc b (wS w k) (wM w k))).toInt64) + (iz (gr b w k 1)).toInt64))
def gT (b : BT) (w : WT) (j : Nat) (h : Int64) : Int64 := 31 * (31 * (31 * h + (dts b w ((50 * j : Nat) : Int)).toInt64) + sc b ((50 * j : Nat) : Int) 0) + sc b ((50 * j : Nat) : Int) 1
def gS (b : BT) (so : Nat) (h : Int64) : Int64 := 31 * (31 * h + (iz (lst b so 0)).toInt64) + (iz (lst b so 2)).toInt64
def dgs (b : BT) (w : WT) (fn : Int32) : Int64 :=
  31 * (31 * itL (gS b) 3 (itL (gT b w) 21 (itL (gW b w) (wN w) (itL (gN2 b) (nc b) (itL (gB2 b) (bN b) (itL (gC b w fn) 8 17))))) + (iz (shr b w)).toInt64) + (sav b w).toInt64
theorem m_newsDigest {τ : SS} {b : BT} {K : SS → Int64 → Prop} (hM : MB τ b) (hB : BB b) {h0 : Int64} (h : ∀ τ', pe τ τ' → K τ' (itL (gN2 b) (nc b) (itL (gB2 b) (bN b) h0))) : wp_X6_newsDigest τ h0 K := by
  have r := hB.1.1
  have r5 := nc_40 hB
  unfold wp_X6_newsDigest
  refine fx3_i (fun σ x3 x5 => pe τ σ ∧ ∃ k : Nat, k ≤ bN b ∧ x5 = iz k ∧ x3 = itL (gB2 b) k h0) (fun _ _ x5 => 50 - x5.toNatClampNeg) ?_ _ _ _ ⟨pe_r τ, 0, Nat.zero_le _, rfl, rfl⟩
  rintro L σ x3 x5 ⟨hp, k, hk, rfl, rfl⟩ hL
  have hM1 := MB_pe hp hM
  unfold lb_X6_newsDigest_5
  simp only [ize, hM1.1]
  refine cle (by omega) (fun e => ?_) (fun e => ?_)
  · have e3 : k = bN b := by omega
    subst e3
    refine m_findsNews hM1 hB (fun τ1 hp1 hN1 _ => ?_)
    generalize itL (gB2 b) (bN b) h0 = h1 at h
    refine fx3_i (fun σ x3 x5 => σ = τ1 ∧ ∃ i : Nat, i ≤ nc b ∧ x5 = iz i ∧ x3 = itL (gN2 b) i h1) (fun _ _ x5 => 50 - x5.toNatClampNeg) ?_ _ _ _ ⟨rfl, 0, Nat.zero_le _, rfl, rfl⟩
    rintro L2 σ2 x3 x5 ⟨rfl, i, hi, rfl, rfl⟩ hL2
    have hM2 := MB_pe hp1 hM1
    unfold lb_X6_newsDigest_58
    simp only [ize, hN1.1]
    refine cle (by omega) (fun e => ?_) (fun e => ?_)
    · have e3 : i = nc b := by omega
      subst e3
      exact h _ (pe_t hp hp1)
    · have hi2 : i < nc b := by omega
      have ra := ab_rng hB hi2
      have rb := bl_rng hB i
      have hmu : 50 - (iz (i : Int) + iz 1).toNatClampNeg < 50 - (iz (i : Int)).toNatClampNeg := by
        rw [iz_s, iz_cl (by omega), iz_cl (by omega)]; omega
      refine fx4_i (fun σ x3 x5 x6 => σ = σ2 ∧ x5 = iz i ∧ ∃ q : Nat, q ≤ 3 ∧ x6 = iz q ∧ x3 = itL (gN1 b i) q (itL (gN2 b) i h1)) (fun _ _ _ x6 => 50 - x6.toNatClampNeg) ?_ _ _ _ _ ⟨rfl, rfl, 0, by omega, rfl, rfl⟩
      rintro L3 σ3 x3 x5 x6 ⟨rfl, rfl, q, hq, rfl, rfl⟩ hL3
      unfold lb_X6_newsDigest_70
      simp only [ize]
      refine cle (by omega) (fun e => ?_) (fun e => ?_)
      · have e3 : q = 3 := by omega
        subst e3
        unfold bl_X6_newsDigest_98
        simp only [ize]
        refine m_aboveBy hM2 hN1 hB hi2 (m_belowBy hM2 hB (by omega) ?_)
        rw [iz_l (by omega), iz_l (by omega)]
        refine m_partOf (by omega) (by omega) (by omega) (m_aboveBy hM2 hN1 hB hi2 (m_belowBy hM2 hB (by omega) ?_))
        rw [iz_l (by omega), iz_l (by omega)]
        refine m_partOf (by omega) (by omega) (by omega) ?_
        exact hL2 _ _ _ ⟨rfl, i + 1, by omega, iz_s i, rfl⟩ hmu
      · refine m_newsOf hM2 hN1 hB hi2 (by omega) ?_
        refine hL3 _ _ _ _ ⟨rfl, rfl, q + 1, by omega, iz_s q, rfl⟩ ?_
        rw [iz_s, iz_cl (by omega), iz_cl (by omega)]; omega
  · have hk2 : k < bN b := by omega
    have hmu : 50 - (iz (k : Int) + iz 1).toNatClampNeg < 50 - (iz (k : Int)).toNatClampNeg := by
      rw [iz_s, iz_cl (by omega), iz_cl (by omega)]; omega
    refine fx4_i (fun σ x3 x5 x6 => pe τ σ ∧ x5 = iz k ∧ ∃ q : Nat, q ≤ 3 ∧ x6 = iz q ∧ x3 = itL (gB1 b k) q (itL (gB2 b) k h0)) (fun _ _ _ x6 => 50 - x6.toNatClampNeg) ?_ _ _ _ _ ⟨hp, rfl, 0, by omega, rfl, rfl⟩
    rintro L3 σ3 x3 x5 x6 ⟨hp3, rfl, q, hq, rfl, rfl⟩ hL3
    unfold lb_X6_newsDigest_17
    simp only [ize]
    refine cle (by omega) (fun e => ?_) (fun e => ?_)
    · have e3 : q = 3 := by omega
      subst e3
      exact hL _ _ _ ⟨hp3, k + 1, by omega, iz_s k, rfl⟩ hmu
    · refine m_cameOf (MB_pe hp3 hM) hB hk2 (by omega) (fun τ1 hp1 _ => ?_)
      refine hL3 _ _ _ _ ⟨pe_t hp3 hp1, rfl, q + 1, by omega, iz_s q, rfl⟩ ?_
      rw [iz_s, iz_cl (by omega), iz_cl (by omega)]; omega
theorem m_watcherDigest {τ : SS} {b : BT} {w : WT} {K : SS → Int64 → Prop} (hM : MB τ b) (hB : BB b) (hW : MW τ w) (hWB : WB w) {k : Nat} (hk : k < wN w) {h0 : Int64} (h : ∀ τ', pe τ τ' → K τ' (gW b w k h0)) : wp_X6_watcherDigest τ h0 (iz k) K := by
  have r := hWB.1
  have r5 := nc_40 hB
  have rmc := mc_le b (wS w k) (wM w k) (nc b)
  have e1n : (k : Int) + ((1 : Nat) : Int) - 1 = (k : Int) := by omega
  unfold wp_X6_watcherDigest
  refine fx4_i (fun σ x3 x4 x6 => pe τ σ ∧ x3 = iz k ∧ ∃ q : Nat, q ≤ 10 ∧ x6 = iz q ∧ x4 = itL (gW1 b w k) q h0) (fun _ _ _ x6 => 50 - x6.toNatClampNeg) ?_ _ _ _ _ ⟨pe_r τ, rfl, 0, by omega, rfl, rfl⟩
  rintro L σ x3 x4 x6 ⟨hp, rfl, q, hq, rfl, rfl⟩ hL
  unfold lb_X6_watcherDigest_6
  simp only [ize]
  refine cle (by omega) (fun e => ?_) (fun e => ?_)
  · have e3 : q = 10 := by omega
    subst e3
    unfold bl_X6_watcherDigest_36
    simp only [ize]
    refine m_noticedOf (MB_pe hp hM) hB (MW_pe hp hW) hWB hk (fun τ1 hp1 => ?_)
    have hpa := pe_t hp hp1
    have := m_greatest (MB_pe hpa hM) hB (MW_pe hpa hW) hWB (f := k) (n := 1) (by omega) (K := fun (σ60 : SS) (r60 : Int32) => wp_X6_infoOf σ60 (iz k) (iz 4) (fun (σ70 : SS) (r70 : Int32) => ∃ n, fx5 (lb_X6_watcherDigest_78 K) n σ70 (iz k) ((31 * ((31 * itL (gW1 b w k) 10 h0) + (iz (ntc b (wS w k) (wM w k))).toInt64)) + r60.toInt64) r70 (iz 0))) (fun τ2 hp2 => ?_)
    · rw [e1n] at this; exact this
    · have hpb := pe_t hpa hp2
      refine m_infoOf (MB_pe hpb hM) hB (MW_pe hpb hW) hWB hk (by omega) (fun τ3 hp3 => ?_)
      have hpc := pe_t hpb hp3
      rw [show inf b w k 4 = (mc b (wS w k) (wM w k) (nc b) : Int) from rfl]
      generalize hh1 : (31 * ((31 * itL (gW1 b w k) 10 h0) + (iz (ntc b (wS w k) (wM w k))).toInt64)) + (iz (gr b w k 1)).toInt64 = h1
      have h' : ∀ τ', pe τ τ' → K τ' (itL (gW4 b w k) (nc b) (itL (gW3 b w k) (mc b (wS w k) (wM w k) (nc b)) h1)) := by rw [← hh1]; exact h
      refine fx5_i (fun σ x3 x4 x6 x7 => pe τ σ ∧ x3 = iz k ∧ x6 = iz (mc b (wS w k) (wM w k) (nc b)) ∧ ∃ j : Nat, j ≤ mc b (wS w k) (wM w k) (nc b) ∧ x7 = iz j ∧ x4 = itL (gW3 b w k) j h1) (fun _ _ _ _ x7 => 50 - x7.toNatClampNeg) ?_ _ _ _ _ _ ⟨hpc, rfl, rfl, 0, Nat.zero_le _, rfl, rfl⟩
      rintro L2 σ2 x3 x4 x6 x7 ⟨hq2, rfl, rfl, j, hj, rfl, rfl⟩ hL2
      unfold lb_X6_watcherDigest_78
      simp only [ize]
      refine cle (by omega) (fun e => ?_) (fun e => ?_)
      · have e3 : j = mc b (wS w k) (wM w k) (nc b) := by omega
        subst e3
        generalize itL (gW3 b w k) (mc b (wS w k) (wM w k) (nc b)) h1 = h2 at h'
        refine fx4_i (fun σ x3 x4 x7 => pe τ σ ∧ x3 = iz k ∧ ∃ i : Nat, i ≤ nc b ∧ x7 = iz i ∧ x4 = itL (gW4 b w k) i h2) (fun _ _ _ x7 => 50 - x7.toNatClampNeg) ?_ _ _ _ _ ⟨hq2, rfl, 0, Nat.zero_le _, rfl, rfl⟩
        rintro L3 σ3 x3 x4 x7 ⟨hq3, rfl, i, hi, rfl, rfl⟩ hL3
        unfold lb_X6_watcherDigest_128
        simp only [ize]
        refine m_newsNow (MB_pe hq3 hM) hB (fun τ4 hp4 _ => ?_)
        have hq4 := pe_t hq3 hp4
        refine cle (by omega) (fun e => ?_) (fun e => ?_)
        · have e3 : i = nc b := by omega
          subst e3
          exact h' _ hq4
        · refine m_limitOf (MB_pe hq4 hM) hB (MW_pe hq4 hW) hWB hk (by omega) (fun τ5 hp5 => ?_)
          refine hL3 _ _ _ _ ⟨pe_t hq4 hp5, rfl, i + 1, by omega, iz_s i, rfl⟩ ?_
          rw [iz_s, iz_cl (by omega), iz_cl (by omega)]; omega
      · have hj2 : j < mc b (wS w k) (wM w k) (nc b) := by omega
        have hmu : 50 - (iz (j : Int) + iz 1).toNatClampNeg < 50 - (iz (j : Int)).toNatClampNeg := by
          rw [iz_s, iz_cl (by omega), iz_cl (by omega)]; omega
        refine fx6_i (fun σ x3 x4 x6 x7 x8 => pe τ σ ∧ x3 = iz k ∧ x6 = iz (mc b (wS w k) (wM w k) (nc b)) ∧ x7 = iz j ∧ ∃ q : Nat, q ≤ 3 ∧ x8 = iz q ∧ x4 = itL (gW2 b w k j) q (itL (gW3 b w k) j h1)) (fun _ _ _ _ _ x8 => 50 - x8.toNatClampNeg) ?_ _ _ _ _ _ _ ⟨hq2, rfl, rfl, rfl, 0, by omega, rfl, rfl⟩
        rintro L3 σ3 x3 x4 x6 x7 x8 ⟨hq3, rfl, rfl, rfl, q, hqq, rfl, rfl⟩ hL3
        unfold lb_X6_watcherDigest_88
        simp only [ize]
        refine cle (by omega) (fun e => ?_) (fun e => ?_)
        · have e3 : q = 3 := by omega
          subst e3
          exact hL2 _ _ _ _ _ ⟨hq3, rfl, rfl, j + 1, by omega, iz_s j, rfl⟩ hmu
        · refine m_ledgerOf (MB_pe hq3 hM) hB (MW_pe hq3 hW) hWB hk (by omega) (by omega) (fun τ5 hp5 => ?_)
          refine hL3 _ _ _ _ _ _ ⟨pe_t hq3 hp5, rfl, rfl, rfl, q + 1, by omega, iz_s q, ?_⟩ ?_
          · rw [if_pos (by omega)]; rfl
          · rw [iz_s, iz_cl (by omega), iz_cl (by omega)]; omega
  · refine m_infoOf (MB_pe hp hM) hB (MW_pe hp hW) hWB hk (by omega) (fun τ1 hp1 => ?_)
    refine hL _ _ _ _ ⟨pe_t hp hp1, rfl, q + 1, by omega, iz_s q, rfl⟩ ?_
    rw [iz_s, iz_cl (by omega), iz_cl (by omega)]; omega
theorem m_digest {τ : SS} {b : BT} {w : WT} {fn : Int32} {K : SS → Int64 → Prop} (hM : MB τ b) (hB : BB b) (hW : MW τ w) (hWB : WB w) (hF : gI τ 100 27 = fn) (h : ∀ τ', pe τ τ' → K τ' (dgs b w fn)) : wp_X6_digest τ K := by
  have r := hWB.1
  unfold dgs at h
  unfold wp_X6_digest
  refine fx3_i (fun σ x1 x3 => pe τ σ ∧ ∃ q : Nat, q ≤ 8 ∧ x3 = iz q ∧ x1 = itL (gC b w fn) q 17) (fun _ _ x3 => 50 - x3.toNatClampNeg) ?_ _ _ _ ⟨pe_r τ, 0, by omega, rfl, rfl⟩
  rintro L σ x1 x3 ⟨hp, q, hq, rfl, rfl⟩ hL
  unfold lb_X6_digest_6
  simp only [ize]
  refine cle (by omega) (fun e => ?_) (fun e => ?_)
  · have e3 : q = 8 := by omega
    subst e3
    generalize itL (gC b w fn) 8 17 = h1 at h
    refine m_newsDigest (MB_pe hp hM) hB (fun τ1 hp1 => ?_)
    have hpa := pe_t hp hp1
    generalize itL (gN2 b) (nc b) (itL (gB2 b) (bN b) h1) = h2 at h
    refine fx3_i (fun σ x1 x3 => pe τ σ ∧ ∃ k : Nat, k ≤ wN w ∧ x3 = iz k ∧ x1 = itL (gW b w) k h2) (fun _ _ x3 => 50 - x3.toNatClampNeg) ?_ _ _ _ ⟨hpa, 0, Nat.zero_le _, rfl, rfl⟩
    rintro L2 σ2 x1 x3 ⟨hp2, k, hk, rfl, rfl⟩ hL2
    unfold lb_X6_digest_39
    simp only [ize, (MW_pe hp2 hW).1]
    refine cle (by omega) (fun e => ?_) (fun e => ?_)
    · have e3 : k = wN w := by omega
      subst e3
      generalize itL (gW b w) (wN w) h2 = h3 at h
      refine fx3_i (fun σ x1 x3 => pe τ σ ∧ ∃ j : Nat, j ≤ 21 ∧ x3 = iz ((50 * j : Nat) : Int) ∧ x1 = itL (gT b w) j h3) (fun _ _ x3 => 2000 - x3.toNatClampNeg) ?_ _ _ _ ⟨hp2, 0, by omega, rfl, rfl⟩
      rintro L3 σ3 x1 x3 ⟨hp3, j, hj, rfl, rfl⟩ hL3
      unfold lb_X6_digest_62
      simp only [ize]
      refine clt (by omega) (fun e => ?_) (fun e => ?_)
      · have e3 : j = 21 := by omega
        subst e3
        generalize itL (gT b w) 21 h3 = h4 at h
        refine fx3_i (fun σ x1 x3 => pe τ σ ∧ ∃ q : Nat, q ≤ 3 ∧ x3 = iz q ∧ x1 = itL (gS b) q h4) (fun _ _ x3 => 50 - x3.toNatClampNeg) ?_ _ _ _ ⟨hp3, 0, by omega, rfl, rfl⟩
        rintro L4 σ4 x1 x3 ⟨hp4, q, hq, rfl, rfl⟩ hL4
        unfold lb_X6_digest_116
        simp only [ize]
        refine cle (by omega) (fun e => ?_) (fun e => ?_)
        · have e3 : q = 3 := by omega
          subst e3
          unfold bl_X6_digest_155
          refine m_sharedNow (MB_pe hp4 hM) hB (MW_pe hp4 hW) hWB (fun τ5 hp5 => ?_)
          have hpe := pe_t hp4 hp5
          exact m_savedNow (MB_pe hpe hM) hB (MW_pe hpe hW) hWB (fun τ6 hp6 => h _ (pe_t hpe hp6))
        · refine m_leastOf (MB_pe hp4 hM) hB (by omega) (by omega) (fun τ5 hp5 => ?_)
          have hpe := pe_t hp4 hp5
          refine m_leastOf (MB_pe hpe hM) hB (by omega) (by omega) (fun τ6 hp6 => ?_)
          refine hL4 _ _ _ ⟨pe_t hpe hp6, q + 1, by omega, iz_s q, rfl⟩ ?_
          rw [iz_s, iz_cl (by omega), iz_cl (by omega)]; omega
      · refine m_doubtsAt (MB_pe hp3 hM) hB (MW_pe hp3 hW) hWB (by omega) (fun τ5 hp5 => ?_)
        have hpe := pe_t hp3 hp5
        refine m_scoreOf (MB_pe hpe hM) hB (by omega) (by omega) (fun τ6 hp6 => ?_)
        have hpf := pe_t hpe hp6
        refine m_scoreOf (MB_pe hpf hM) hB (by omega) (by omega) (fun τ7 hp7 => ?_)
        have e50 : iz ((50 * j : Nat) : Int) + iz 50 = iz ((50 * (j + 1) : Nat) : Int) := by rw [iz_add]; congr 1
        refine hL3 _ _ _ ⟨pe_t hpf hp7, j + 1, by omega, e50, rfl⟩ ?_
        rw [e50, iz_cl (by omega), iz_cl (by omega)]; omega
    · refine m_watcherDigest (MB_pe hp2 hM) hB (MW_pe hp2 hW) hWB (by omega) (fun τ5 hp5 => ?_)
      refine hL2 _ _ _ ⟨pe_t hp2 hp5, k + 1, by omega, iz_s k, rfl⟩ ?_
      rw [iz_s, iz_cl (by omega), iz_cl (by omega)]; omega
  · refine m_count (MB_pe hp hM) hB (MW_pe hp hW) hWB ((pe_I hp 27 (by decide)).trans hF) (by omega) (fun τ5 hp5 => ?_)
    refine hL _ _ _ ⟨pe_t hp hp5, q + 1, by omega, iz_s q, rfl⟩ ?_
    rw [iz_s, iz_cl (by omega), iz_cl (by omega)]; omega
