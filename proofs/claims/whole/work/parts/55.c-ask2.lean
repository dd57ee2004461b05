/-! ===== the class: doubts, noticed, least, longest, shared, saved, counts ===== -/
theorem dbU_iff {b : BT} {so ms t : Int} : ∀ {n : Nat}, dbU b so ms t n = true ↔ ∃ i, i < n ∧ ¬ bg b so ms i = -1 ∧ bg b so ms i ≤ t ∧ (i + 1 = nc b ∨ (mi b so ms i = true ∧ t < nt b (i + 1)))
  | 0 => by simp [dbU]
  | n + 1 => by
    simp only [dbU, Bool.or_eq_true, Bool.and_eq_true, decide_eq_true_eq]
    rw [dbU_iff]
    constructor
    · rintro (⟨i, h1, h2⟩ | h)
      · exact ⟨i, by omega, h2⟩
      · exact ⟨n, by omega, h.1, h.2.1, h.2.2⟩
    · rintro ⟨i, h1, h2⟩
      by_cases e : i = n
      · subst e; exact Or.inr ⟨h2.1, h2.2.1, h2.2.2⟩
      · exact Or.inl ⟨i, by omega, h2⟩
theorem db_la {b : BT} (hB : BB b) {so ms t : Int} {i : Nat} (h : la b t = (i : Int)) : db b so ms t = true ↔ ¬ bg b so ms i = -1 ∧ bg b so ms i ≤ t := by
  obtain ⟨h1, h2, h3⟩ := la_is h
  unfold db
  rw [dbU_iff]
  constructor
  · rintro ⟨j, g1, g2, g3, g4⟩
    have g5 := (bg_nt hB (so := so) (ms := ms) g1).resolve_left g2
    by_cases e : i < j
    · have := h3 j e g1; omega
    · by_cases e2 : j = i
      · subst e2; exact ⟨g2, g3⟩
      · rcases g4 with g4 | g4
        · omega
        · have := nt_mono (b := b) (show j + 1 ≤ i by omega) h1
          omega
  · rintro ⟨g1, g2⟩
    refine ⟨i, h1, g1, g2, ?_⟩
    by_cases e : i + 1 = nc b
    · exact Or.inl e
    · have := h3 (i + 1) (by omega) (by omega)
      exact Or.inr ⟨mi_iff.mpr ⟨g1, by omega, by omega⟩, this⟩
theorem db_no {b : BT} (hB : BB b) {so ms t : Int} (h : la b t = -1) : db b so ms t = false := by
  cases hh : db b so ms t with
  | false => rfl
  | true =>
    unfold db at hh
    rw [dbU_iff] at hh
    obtain ⟨j, g1, g2, g3, g4⟩ := hh
    have g5 := (bg_nt hB (so := so) (ms := ms) g1).resolve_left g2
    have := la_no h j g1
    omega
theorem bitF_0 {P : Nat → Bool} (h : ∀ k, P k = false) : ∀ n, bitF P n = 0
  | 0 => rfl
  | n + 1 => by rw [bitF, h n, bitF_0 h n]; rfl
theorem c_doubts {σ : SS} {b : BT} {w : WT} {K : SS → Int32 → Prop} (hB : BB b) (hWB : WB w) (hC : CI0 σ b w) {t : Int} (ht : -2147483648 ≤ t ∧ t < 2147483648) (h : ∀ σ', rd σ σ' b w → K σ' (rDts b w t)) : wp_X5_doubts σ (iz t) K := by
  have r := hWB.1
  have r5 := nc_40 hB
  have h0 := h σ (rd_r hC)
  unfold wp_X5_doubts
  simp only [ize]
  refine c_win ht (by omega) (bz_c (fun e1 => ?_) (fun e1 => ?_))
  · simp only [decide_eq_true_eq] at e1
    refine c_followArrivals hB hWB hC (fun σ1 hq1 hC1 hF1 => ?_)
    have h1 := h σ1 (rd_f hq1 hC1 hF1)
    rw [rDts, if_pos e1] at h1
    have rl := laF_rng b t (nc b)
    rw [show laF b t (nc b) = la b t from rfl] at rl
    refine c_latestAt hB hF1.2.1 e1 (cne (by omega) (fun e2 => ?_) (fun e2 => ?_))
    · obtain ⟨i, hi⟩ := Int.eq_ofNat_of_zero_le (show 0 ≤ la b t by omega)
      rw [hi] at rl ⊢
      have hi2 : i < nc b := by omega
      refine fx5_i (fun σ2 x1 x2 x3 x4 => σ2 = σ1 ∧ x1 = iz t ∧ x2 = iz i ∧ ∃ k : Nat, k ≤ wN w ∧ x4 = iz k ∧ x3 = bitF (fun k => db b (wS w k) (wM w k) t) k) (fun _ _ _ _ x4 => 50 - x4.toNatClampNeg) ?_ _ _ _ _ _ ⟨rfl, rfl, rfl, 0, Nat.zero_le _, rfl, rfl⟩
      rintro L σ2 x1 x2 x3 x4 ⟨rfl, rfl, rfl, k, hk, rfl, rfl⟩ hL
      unfold lb_X5_doubts_40
      rw [hC1.1.2.1]
      simp only [ize]
      refine cle (by omega) (fun e => ?_) (fun e => ?_)
      · have e3 : k = wN w := by omega
        subst e3; exact h1
      · have hk2 : k < wN w := by omega
        have hD := hF1.2.2 k hk2
        have rb := bg_rng hB (hWB.2 k hk2).1 hi2
        have hmu : 50 - (iz (k : Int) + iz 1).toNatClampNeg < 50 - (iz (k : Int)).toNatClampNeg := by
          rw [iz_s, iz_cl (by omega), iz_cl (by omega)]; omega
        rw [iz_cl (show k < 2147483648 by omega), iz_cl (show i < 2147483648 by omega), show 26 + 6 * k + 1 + 1 = 27 + 6 * k + 1 by omega, hD.2.1 i hi2]
        have hdb := db_la hB (so := wS w k) (ms := wM w k) hi
        refine ⟨iz_in (by omega), iz_in (by omega), ceq (by omega) (fun e3 => ?_) (fun e3 => clt (by omega) (fun e4 => ?_) (fun e4 => ?_))⟩
        · refine hL _ _ _ _ _ ⟨rfl, rfl, rfl, k + 1, by omega, iz_s k, ?_⟩ hmu
          rw [bitF, if_neg (by rw [hdb]; omega)]
        · refine hL _ _ _ _ _ ⟨rfl, rfl, rfl, k + 1, by omega, iz_s k, ?_⟩ hmu
          rw [bitF, if_neg (by rw [hdb]; omega)]
        · refine hL _ _ _ _ _ ⟨rfl, rfl, rfl, k + 1, by omega, iz_s k, ?_⟩ hmu
          rw [bitF, if_pos (by rw [hdb]; omega)]; rfl
    · rw [dts, bitF_0 (fun k => db_no hB (by omega))] at h1; exact h1
  · simp only [decide_eq_false_iff_not] at e1
    rw [rDts, if_neg e1] at h0; exact h0
theorem c_noticed {σ : SS} {b : BT} {w : WT} {K : SS → Int32 → Prop} (hB : BB b) (hWB : WB w) (hC : CI0 σ b w) {z : Int} (hz : -2147483648 ≤ z ∧ z < 2147483648) (h : ∀ σ', rd σ σ' b w → K σ' (rNtc b w z)) : wp_X5_noticed σ (iz z) K := by
  have r := hWB.1
  have h0 := h σ (rd_r hC)
  unfold wp_X5_noticed
  simp only [ize]
  refine c_isWatcher hC.1.2 hWB hz (bz_c (fun e1 => ?_) (fun e1 => ?_))
  · simp only [decide_eq_true_eq] at e1
    refine c_followArrivals hB hWB hC (fun σ1 hq1 hC1 hF1 => ?_)
    have h1 := h σ1 (rd_f hq1 hC1 hF1)
    rw [rNtc, if_pos e1] at h1
    obtain ⟨k, rfl⟩ := Int.eq_ofNat_of_zero_le e1.1
    simp only [Int.toNat_natCast] at h1
    have hk : k < wN w := by omega
    have hD := hF1.2.2 k hk
    have rf := fg_rng hB (hWB.2 k hk).1
    have rs := hB.2.2.1
    rw [iz_cl (by omega), show 26 + 6 * k + 1 = 27 + 6 * k by omega, hD.1.2.2.2.2, hC1.1.1.2.2.2.2, iz_sub, if_iz (by omega)]
    refine ⟨iz_in (by omega), ceq (by omega) (fun e => ?_) (fun e => cne (by omega) (fun e2 => ?_) (fun e2 => ?_))⟩
    · rw [show ntc b (wS w k) (wM w k) = -1 from if_pos (Or.inl e)] at h1; exact h1
    · by_cases e3 : fg b (wS w k) (wM w k) - bS b < 0
      · rw [if_pos e3]
        rw [show ntc b (wS w k) (wM w k) = 0 by unfold ntc; rw [if_neg (by omega), if_pos (by omega)]] at h1; exact h1
      · rw [if_neg e3]
        rw [show ntc b (wS w k) (wM w k) = fg b (wS w k) (wM w k) - bS b by unfold ntc; rw [if_neg (by omega), if_neg (by omega)]] at h1; exact h1
    · rw [show ntc b (wS w k) (wM w k) = -1 from if_pos (Or.inr e2)] at h1; exact h1
  · simp only [decide_eq_false_iff_not] at e1
    rw [rNtc, if_neg e1] at h0; exact h0
theorem rd_ag {l u : Nat} {σ σ' : SS} {b : BT} {w : WT} (h : ag l u σ σ') (h1 : 13 ≤ l ∧ u ≤ 26) (hC : CI0 σ b w) : rd σ σ' b w := by
  have hq : cq σ σ' := cq_ag h (by omega) (fun k hk => by omega)
  refine ⟨hq, ⟨⟨CB_cq hq hC.1.1, CWt_cq hq hC.1.2⟩, ?_, ?_⟩, fun x => FO_ag h h1 x⟩
  · rcases hC.2.1 with e | e
    · left; rw [ag_I h (by omega)]; exact e
    · right; exact FO_ag h h1 e
  · rcases hC.2.2 with e | e
    · left; rw [ag_I h (by omega)]; exact e
    · right; exact ⟨by rw [ag_I h (by omega)]; exact e.1, fun p h1 h2 => by rw [ag_A h (by omega)]; exact e.2 p h1 h2⟩
theorem c_least {σ : SS} {b : BT} {w : WT} {K : SS → Int32 → Prop} (hB : BB b) (hWB : WB w) (hC : CI0 σ b w) {so m : Int} (hs : -2147483648 ≤ so ∧ so < 2147483648) (hm : -2147483648 ≤ m ∧ m < 2147483648) (h : ∀ σ', rd σ σ' b w → K σ' (rLst b so m)) : wp_X5_least σ (iz so) (iz m) K := by
  have r5 := nc_40 hB
  have h0 := h σ (rd_r hC)
  unfold wp_X5_least
  simp only [ize]
  refine c_win hs (by omega) (bz_d (fun e1 => ?_) (fun e1 => ?_))
  · simp only [decide_eq_true_eq] at e1
    refine c_win hm (by omega) (bz_c (fun e2 => ?_) (fun e2 => ?_))
    · simp only [decide_eq_true_eq] at e2
      refine c_followArrivals hB hWB hC (fun σ1 hq1 hC1 hF1 => ?_)
      have hrd := rd_f hq1 hC1 hF1
      have key : ∀ (v0 hi : Nat), hi ≤ 200 → v0 ≤ hi + 1 → (∀ v : Nat, v0 ≤ v → v ≤ hi → okW so v) → gmA (iz so).toNatClampNeg = iz hi → lst b so m = leF (lsP b so m) (hi + 1 - v0) v0 → ∃ n, fx4 (lb_X5_least_34 K) n σ1 (iz so) (iz m) (iz v0) := by
        intro v0 hi h200 hv0 hok hgm hl0
        refine fx4_i (fun σ2 x1 x2 x3 => x1 = iz so ∧ x2 = iz m ∧ rd σ σ2 b w ∧ FO σ2 b w ∧ ∃ v : Nat, (v0 ≤ v ∧ v ≤ hi + 1) ∧ x3 = iz v ∧ lst b so m = leF (lsP b so m) (hi + 1 - v) v) (fun _ _ _ x3 => 300 - x3.toNatClampNeg) ?_ _ _ _ _ ⟨rfl, rfl, hrd, hF1, v0, ⟨Nat.le_refl _, hv0⟩, rfl, hl0⟩
        rintro L σ2 x1 x2 x3 ⟨rfl, rfl, hr2, hF2, v, hv, rfl, hl⟩ hL
        have h2 := h σ2 hr2
        unfold lb_X5_least_34
        rw [hgm]
        simp only [ize]
        refine ⟨iz_in (by omega), clt (by omega) (fun e3 => ?_) (fun e3 => ?_)⟩
        · rw [rLst, if_pos ⟨e1, e2⟩, hl, show hi + 1 - v = 0 by omega] at h2; exact h2
        · refine c_keep hB (hok v hv.1 (by omega)) hF2.2.1 (by omega) (fun σ3 hp3 hD3 => ?_)
          have hr3 := rd_t hr2 (rd_ag hp3 (by omega) hr2.2.1)
          have rm := mc_le b so v (nc b)
          have hle : leF (lsP b so m) (hi + 1 - v) v = if lsP b so m v then (v : Int) else leF (lsP b so m) (hi - v) (v + 1) := by
            rw [show hi + 1 - v = (hi - v) + 1 by omega]; rfl
          rw [hD3.1.1]
          refine clt (by omega) (fun e4 => ?_) (fun e4 => ?_)
          · refine hL _ _ _ _ ⟨rfl, rfl, hr3, FO_ag hp3 (by omega) hF2, v + 1, by omega, iz_s v, ?_⟩ ?_
            · rw [hl, hle, if_neg (by simp [lsP]; omega), show hi + 1 - (v + 1) = hi - v by omega]
            · rw [iz_s, iz_cl (by omega), iz_cl (by omega)]; omega
          · have h3 := h σ3 hr3
            rw [rLst, if_pos ⟨e1, e2⟩, hl, hle, if_pos (by simp [lsP]; omega)] at h3; exact h3
      refine ⟨iz_in (by omega), ?_⟩
      have e3 : so = 0 ∨ so = 1 ∨ so = 2 := by omega
      rcases e3 with rfl | rfl | rfl
      · exact key 0 99 (by omega) (by omega) (fun v h1 h2 => Or.inl ⟨rfl, by omega, by omega⟩) rfl rfl
      · exact key 1 10 (by omega) (by omega) (fun v h1 h2 => Or.inr (Or.inl ⟨rfl, by omega, by omega⟩)) rfl rfl
      · exact key 1 200 (by omega) (by omega) (fun v h1 h2 => Or.inr (Or.inr (Or.inl ⟨rfl, by omega, by omega⟩))) rfl rfl
    · simp only [decide_eq_false_iff_not] at e2
      rw [rLst, if_neg (by omega)] at h0; exact h0
  · simp only [decide_eq_false_iff_not] at e1
    rw [rLst, if_neg (by omega)] at h0; exact h0
theorem c_longestKeptBy {σ : SS} {K : SS → Int32 → Prop} {x : Int32} {P : Nat → Bool} (hP : ∀ p : Nat, 1 ≤ p → p ≤ 50 → ((gA σ 4 p &&& x = x) ↔ P p = true)) (h : K σ (iz (grF P 50))) : wp_X5_longestKeptBy σ x K := by
  unfold wp_X5_longestKeptBy
  simp only [ize]
  refine fx3_i (fun σ1 x1 x2 => σ1 = σ ∧ x1 = x ∧ ∃ p : Nat, p ≤ 50 ∧ x2 = iz p ∧ grF P 50 = grF P p) (fun _ _ x2 => x2.toNatClampNeg) ?_ _ _ _ ⟨rfl, rfl, 50, Nat.le_refl _, rfl, rfl⟩
  rintro L σ1 x1 x2 ⟨rfl, rfl, p, hp, rfl, hg⟩ hL
  unfold lb_X5_longestKeptBy_3
  simp only [ize]
  refine clt (by omega) (fun e => ?_) (fun e => ?_)
  · rw [hg, show p = 0 by omega] at h; exact h
  · obtain ⟨q, rfl⟩ : ∃ q, p = q + 1 := ⟨p - 1, by omega⟩
    have em : iz ((q + 1 : Nat) : Int) + iz (-1) = iz (q : Int) := by rw [iz_add]; congr 1; omega
    have hq := hP (q + 1) (by omega) (by omega)
    rw [iz_cl (by omega)]
    refine ⟨iz_in (by omega), fun e2 => ?_, fun e2 => ?_⟩
    · refine hL _ _ _ ⟨rfl, rfl, q, by omega, em, ?_⟩ ?_
      · rw [hg, grF, if_neg (fun z => e2 (hq.mpr z))]
      · rw [em, iz_cl (by omega), iz_cl (by omega)]; omega
    · rw [hg, grF, if_pos (hq.mp e2)] at h; exact h
def andF (P : Nat → Bool) : Nat → Bool
  | 0 => true
  | n + 1 => andF P n && P n
theorem alW_and (b : BT) (w : WT) : ∀ n, alW b w 0 n = andF (kpt b w) n
  | 0 => rfl
  | n + 1 => by rw [alW, andF, alW_and b w n, Nat.zero_add]
theorem bitF_w (P : Nat → Bool) {n : Nat} (hn : n ≤ 5) : bitF P n = bitF (fun k => decide (k < n) && P k) 5 := by
  match n, hn with
  | 0, _ => simp [bitF]
  | 1, _ => simp [bitF]
  | 2, _ => simp [bitF]
  | 3, _ => simp [bitF]
  | 4, _ => simp [bitF]
  | 5, _ => simp [bitF]
theorem bit_5 (P : Nat → Bool) {k : Nat} (hk : k < 5) : (bitF P 5 &&& ((1 : Int32) <<< (iz k &&& 31)) = ((1 : Int32) <<< (iz k &&& 31))) ↔ P k = true := by
  simp only [bitF]
  match k, hk with
  | 0, _ => generalize P 0 = a0; generalize P 1 = a1; generalize P 2 = a2; generalize P 3 = a3; generalize P 4 = a4; revert a0 a1 a2 a3 a4; decide +kernel
  | 1, _ => generalize P 0 = a0; generalize P 1 = a1; generalize P 2 = a2; generalize P 3 = a3; generalize P 4 = a4; revert a0 a1 a2 a3 a4; decide +kernel
  | 2, _ => generalize P 0 = a0; generalize P 1 = a1; generalize P 2 = a2; generalize P 3 = a3; generalize P 4 = a4; revert a0 a1 a2 a3 a4; decide +kernel
  | 3, _ => generalize P 0 = a0; generalize P 1 = a1; generalize P 2 = a2; generalize P 3 = a3; generalize P 4 = a4; revert a0 a1 a2 a3 a4; decide +kernel
  | 4, _ => generalize P 0 = a0; generalize P 1 = a1; generalize P 2 = a2; generalize P 3 = a3; generalize P 4 = a4; revert a0 a1 a2 a3 a4; decide +kernel
theorem bit_one (P : Nat → Bool) {n k : Nat} (hn : n ≤ 5) (hk : k < n) : (bitF P n &&& ((1 : Int32) <<< (iz k &&& 31)) = ((1 : Int32) <<< (iz k &&& 31))) ↔ P k = true := by
  rw [bitF_w P hn, bit_5 _ (by omega)]
  simp [hk]
theorem bit_all (P : Nat → Bool) {n : Nat} (hn : n ≤ 5) : (bitF P n &&& (((1 : Int32) <<< (iz n &&& 31)) - 1) = (((1 : Int32) <<< (iz n &&& 31)) - 1)) ↔ andF P n = true := by
  match n, hn with
  | 0, _ => simp only [andF, bitF]; decide +kernel
  | 1, _ => simp only [andF, bitF]; generalize P 0 = a0; revert a0; decide +kernel
  | 2, _ => simp only [andF, bitF]; generalize P 0 = a0; generalize P 1 = a1; revert a0 a1; decide +kernel
  | 3, _ => simp only [andF, bitF]; generalize P 0 = a0; generalize P 1 = a1; generalize P 2 = a2; revert a0 a1 a2; decide +kernel
  | 4, _ => simp only [andF, bitF]; generalize P 0 = a0; generalize P 1 = a1; generalize P 2 = a2; generalize P 3 = a3; revert a0 a1 a2 a3; decide +kernel
  | 5, _ => simp only [andF, bitF]; generalize P 0 = a0; generalize P 1 = a1; generalize P 2 = a2; generalize P 3 = a3; generalize P 4 = a4; revert a0 a1 a2 a3 a4; decide +kernel
theorem c_longest {σ : SS} {b : BT} {w : WT} {K : SS → Int32 → Prop} (hB : BB b) (hWB : WB w) (hC : CI0 σ b w) {z : Int} (hz : -2147483648 ≤ z ∧ z < 2147483648) (h : ∀ σ', rd σ σ' b w → K σ' (rLon b w z)) : wp_X5_longest σ (iz z) K := by
  have r := hWB.1
  have h0 := h σ (rd_r hC)
  unfold wp_X5_longest
  refine c_isWatcher hC.1.2 hWB hz (bz_c (fun e1 => ?_) (fun e1 => ?_))
  · simp only [decide_eq_true_eq] at e1
    refine c_weighPeriods hB hWB hC (fun σ1 hr1 hK1 => ?_)
    have h1 := h σ1 hr1
    rw [rLon, if_pos e1] at h1
    obtain ⟨k, rfl⟩ := Int.eq_ofNat_of_zero_le e1.1
    simp only [Int.toNat_natCast] at h1
    refine c_longestKeptBy (P := fun p => alW (bp b p) w k 1) (fun p p1 p2 => ?_) h1
    rw [hK1.2 p p1 p2, bit_one _ r (by omega)]
    simp [alW]
  · simp only [decide_eq_false_iff_not] at e1
    rw [rLon, if_neg e1] at h0; exact h0
theorem c_shared {σ : SS} {b : BT} {w : WT} {K : SS → Int32 → Prop} (hB : BB b) (hWB : WB w) (hC : CI0 σ b w) (h : ∀ σ', rd σ σ' b w → K σ' (iz (shr b w))) : wp_X5_shared σ K := by
  have r := hWB.1
  unfold wp_X5_shared
  refine c_weighPeriods hB hWB hC (fun σ1 hr1 hK1 => ?_)
  rw [hr1.2.1.1.2.1]
  refine c_longestKeptBy (P := fun p => alW (bp b p) w 0 (wN w)) (fun p p1 p2 => ?_) (h σ1 hr1)
  rw [hK1.2 p p1 p2, bit_all _ r, alW_and]
theorem c_sentWith {σ : SS} {K : SS → Int32 → Prop} {g : Int} (hg : g = -1 ∨ (1 ≤ g ∧ g ≤ 50)) (h : K σ (iz (if g < 1 then 0 else 1000 / g + 1))) : wp_X5_sentWith σ (iz g) K := by
  unfold wp_X5_sentWith
  simp only [ize]
  refine cle (by omega) (fun e => ⟨by rw [iz_eq (by omega)]; omega, ?_⟩) (fun e => ?_)
  · rw [iz_div (by omega), iz_add]; rw [if_neg (by omega)] at h; exact h
  · rw [if_pos (by omega)] at h; exact h
theorem c_saved {σ : SS} {b : BT} {w : WT} {K : SS → Int32 → Prop} (hB : BB b) (hWB : WB w) (hC : CI0 σ b w) (h : ∀ σ', rd σ σ' b w → K σ' (sav b w)) : wp_X5_saved σ K := by
  have r := hWB.1
  have rs := grF_rng (fun p => alW (bp b p) w 0 (wN w)) 50
  unfold wp_X5_saved
  refine c_shared hB hWB hC (fun σ1 hr1 => ?_)
  have rs : shr b w = -1 ∨ (1 ≤ shr b w ∧ shr b w ≤ 50) := by unfold shr gr; omega
  rw [hr1.2.1.1.2.1]
  simp only [ize]
  refine ceq (by omega) (fun e => ?_) (fun e => cne (by omega) (fun e1 => ?_) (fun e1 => ?_))
  · have := h σ1 hr1; rw [show sav b w = -2147483648 from if_pos (Or.inl e)] at this; exact this
  · refine fx4_i (fun σ2 x1 x2 x3 => x1 = iz (shr b w) ∧ rd σ σ2 b w ∧ ∃ k : Nat, k ≤ wN w ∧ x3 = iz k ∧ x2 = iz (snF b w k)) (fun _ _ _ x3 => 50 - x3.toNatClampNeg) ?_ _ _ _ _ ⟨rfl, hr1, 0, Nat.zero_le _, rfl, rfl⟩
    rintro L σ2 x1 x2 x3 ⟨rfl, hr2, k, hk, rfl, rfl⟩ hL
    unfold lb_X5_saved_24
    rw [hr2.2.1.1.2.1]
    simp only [ize]
    refine cle (by omega) (fun e2 => ?_) (fun e2 => ?_)
    · have e3 : k = wN w := by omega
      subst e3
      refine c_sentWith (by omega) ?_
      have := h σ2 hr2
      rw [sav, if_neg (by omega)] at this
      rw [if_neg (by omega), iz_sub]; exact this
    · have hgr := gr_one (b := b) (show k < wN w by omega) e
      refine c_longest hB hWB hr2.2.1 (by omega) (fun σ3 hr3 => ?_)
      rw [rLon, if_pos (by omega), Int.toNat_natCast]
      refine c_sentWith (by omega) ?_
      refine hL _ _ _ _ ⟨rfl, rd_t hr2 hr3, k + 1, by omega, iz_s k, ?_⟩ ?_
      · rw [if_neg (by omega), iz_add]; rfl
      · rw [iz_s, iz_cl (by omega), iz_cl (by omega)]; omega
  · have := h σ1 hr1; rw [show sav b w = -2147483648 from if_pos (Or.inr (by omega))] at this; exact this
theorem c_countLost {σ : SS} {b : BT} {w : WT} {K : SS → Int32 → Prop} (hB : BB b) (hC : CI0 σ b w) (hF : FO σ b w) (h : K σ (iz (fb_ct (lo b) (bN b)))) : wp_X5_countLost σ K := by
  have hn := hB.1.1
  unfold wp_X5_countLost
  simp only [ize]
  refine fx3_i (fun σ1 x1 x2 => σ1 = σ ∧ ∃ k : Nat, k ≤ bN b ∧ x2 = iz k ∧ x1 = iz (fb_ct (lo b) k)) (fun _ _ x2 => 50 - x2.toNatClampNeg) ?_ _ _ _ ⟨rfl, 0, Nat.zero_le _, rfl, rfl⟩
  rintro L σ1 x1 x2 ⟨rfl, k, hk, rfl, rfl⟩ hL
  unfold lb_X5_countLost_4
  rw [hC.1.1.1]
  simp only [ize]
  refine cle (by omega) (fun e => ?_) (fun e => ?_)
  · rw [show k = bN b by omega]; exact h
  · have hk2 : k < bN b := by omega
    have rt := tm_rng hB (k := k) (by omega)
    have hmu : 50 - (iz (k : Int) + iz 1).toNatClampNeg < 50 - (iz (k : Int)).toNatClampNeg := by
      rw [iz_s, iz_cl (by omega), iz_cl (by omega)]; omega
    rw [iz_cl (by omega), (hF.2.1.2.1 k hk2).1]
    refine ⟨iz_in (by omega), cne (by omega) (fun e4 => ?_) (fun e4 => ?_)⟩
    · have hl : lo b k = false := by cases hh : lo b k with | false => rfl | true => exact absurd (tm_t hh) e4
      refine hL _ _ _ ⟨rfl, k + 1, by omega, iz_s k, ?_⟩ hmu
      rw [fb_ct_succ, hl]; simp
    · have hl : lo b k = true := by cases hh : lo b k with | true => rfl | false => have := tm_pos hB (k := k) (by omega) hh; omega
      refine hL _ _ _ ⟨rfl, k + 1, by omega, iz_s k, ?_⟩ hmu
      rw [fb_ct_succ, hl, iz_s]; rfl
theorem c_countMistakes {σ : SS} {b : BT} {w : WT} {K : SS → Int32 → Prop} (hB : BB b) (hWB : WB w) (hC : CI0 σ b w) (hF : FO σ b w) (h : K σ (iz (msF b w (wN w)))) : wp_X5_countMistakes σ K := by
  have r := hWB.1
  unfold wp_X5_countMistakes
  simp only [ize]
  refine fx3_i (fun σ1 x1 x2 => σ1 = σ ∧ ∃ k : Nat, k ≤ wN w ∧ x2 = iz k ∧ x1 = iz (msF b w k)) (fun _ _ x2 => 50 - x2.toNatClampNeg) ?_ _ _ _ ⟨rfl, 0, Nat.zero_le _, rfl, rfl⟩
  rintro L σ1 x1 x2 ⟨rfl, k, hk, rfl, rfl⟩ hL
  unfold lb_X5_countMistakes_4
  rw [hC.1.2.1]
  simp only [ize]
  refine cle (by omega) (fun e => ?_) (fun e => ?_)
  · rw [show k = wN w by omega]; exact h
  · have hD := hF.2.2 k (by omega)
    rw [iz_cl (by omega), show 26 + 6 * k + 1 = 27 + 6 * k by omega, hD.1.1]
    refine ⟨iz_in (by omega), hL _ _ _ ⟨rfl, k + 1, by omega, iz_s k, ?_⟩ ?_⟩
    · rw [iz_add]; rfl
    · rw [iz_s, iz_cl (by omega), iz_cl (by omega)]; omega
theorem c_whoKeepsWishes {σ : SS} {b : BT} {w : WT} {K : SS → Int32 → Prop} (hB : BB b) (hWB : WB w) (hC : CI0 σ b w) (hF : FO σ b w) (h : K σ (bitF (kpt b w) (wN w))) : wp_X5_whoKeepsWishes σ K := by
  have r := hWB.1
  unfold wp_X5_whoKeepsWishes
  simp only [ize]
  refine fx3_i (fun σ1 x1 x2 => σ1 = σ ∧ ∃ k : Nat, k ≤ wN w ∧ x2 = iz k ∧ x1 = bitF (kpt b w) k) (fun _ _ x2 => 50 - x2.toNatClampNeg) ?_ _ _ _ ⟨rfl, 0, Nat.zero_le _, rfl, rfl⟩
  rintro L σ1 x1 x2 ⟨rfl, k, hk, rfl, rfl⟩ hL
  unfold lb_X5_whoKeepsWishes_4
  rw [hC.1.2.1]
  simp only [ize]
  refine cle (by omega) (fun e => ?_) (fun e => ?_)
  · rw [show k = wN w by omega]; exact h
  · have hk2 : k < wN w := by omega
    have hD := hF.2.2 k hk2
    have hw := hC.1.2.2 k (by omega)
    have hmu : 50 - (iz (k : Int) + iz 1).toNatClampNeg < 50 - (iz (k : Int)).toNatClampNeg := by
      rw [iz_s, iz_cl (by omega), iz_cl (by omega)]; omega
    rw [iz_cl (by omega), show 26 + 6 * k + 1 = 27 + 6 * k by omega]
    refine ⟨iz_in (by omega), iz_in (by omega), c_keepsWishes hB (hWB.2 k hk2).1 hD hw.2.2.1 hw.2.2.2 (hWB.2 k hk2).2 (bz_d (fun e4 => ?_) (fun e4 => ?_))⟩
    · refine hL _ _ _ ⟨rfl, k + 1, by omega, iz_s k, ?_⟩ hmu
      rw [bitF, if_pos (show kpt b w k = true from e4)]; rfl
    · refine hL _ _ _ ⟨rfl, k + 1, by omega, iz_s k, ?_⟩ hmu
      rw [bitF, if_neg (by rw [show kpt b w k = false from e4]; decide)]
theorem c_countDoubtsForGood {σ : SS} {b : BT} {w : WT} {K : SS → Int32 → Prop} (hB : BB b) (hWB : WB w) (hC : CI0 σ b w) (hF : FO σ b w) (h : K σ (iz (fb_ct (fun k => decide (¬ fg b (wS w k) (wM w k) = -1)) (wN w)))) : wp_X5_countDoubtsForGood σ K := by
  have r := hWB.1
  unfold wp_X5_countDoubtsForGood
  simp only [ize]
  refine fx3_i (fun σ1 x1 x2 => σ1 = σ ∧ ∃ k : Nat, k ≤ wN w ∧ x2 = iz k ∧ x1 = iz (fb_ct (fun k => decide (¬ fg b (wS w k) (wM w k) = -1)) k)) (fun _ _ x2 => 50 - x2.toNatClampNeg) ?_ _ _ _ ⟨rfl, 0, Nat.zero_le _, rfl, rfl⟩
  rintro L σ1 x1 x2 ⟨rfl, k, hk, rfl, rfl⟩ hL
  unfold lb_X5_countDoubtsForGood_4
  rw [hC.1.2.1]
  simp only [ize]
  refine cle (by omega) (fun e => ?_) (fun e => ?_)
  · rw [show k = wN w by omega]; exact h
  · have hk2 : k < wN w := by omega
    have hD := hF.2.2 k hk2
    have rf := fg_rng hB (hWB.2 k hk2).1
    have hmu : 50 - (iz (k : Int) + iz 1).toNatClampNeg < 50 - (iz (k : Int)).toNatClampNeg := by
      rw [iz_s, iz_cl (by omega), iz_cl (by omega)]; omega
    rw [iz_cl (by omega), show 26 + 6 * k + 1 = 27 + 6 * k by omega, hD.1.2.2.2.2]
    refine ⟨iz_in (by omega), ceq (by omega) (fun e4 => ?_) (fun e4 => ?_)⟩
    · refine hL _ _ _ ⟨rfl, k + 1, by omega, iz_s k, ?_⟩ hmu
      rw [fb_ct_succ, show decide (¬ fg b (wS w k) (wM w k) = -1) = false by simp [e4]]; simp
    · refine hL _ _ _ ⟨rfl, k + 1, by omega, iz_s k, ?_⟩ hmu
      rw [fb_ct_succ, show decide (¬ fg b (wS w k) (wM w k) = -1) = true by simp [e4], iz_s]; rfl
theorem c_count {σ : SS} {b : BT} {w : WT} {K : SS → Int32 → Prop} (hB : BB b) (hWB : WB w) (hC : CI0 σ b w) {q : Int} (hq : -2147483648 ≤ q ∧ q < 2147483648) (h : ∀ σ', rd σ σ' b w → K σ' (cnt b w (gI σ 0 8) q)) : wp_X5_count σ (iz q) K := by
  have r5 := nc_40 hB
  unfold wp_X5_count
  refine c_followArrivals hB hWB hC (fun σ1 hq1 hC1 hF1 => ?_)
  have h1 := h σ1 (rd_f hq1 hC1 hF1)
  rw [hC1.1.1.1, hF1.2.1.1.1, hC1.1.2.1, (hq1.1.1 8).resolve_left (by decide)]
  simp only [ize]
  refine ⟨?_, ?_, ?_, ?_, ?_, ?_, ?_, ?_, ?_, ?_⟩
  · rw [iz_eq (by omega)]; intro e; subst e; exact h1
  · rw [iz_eq (by omega)]; intro e; subst e; exact c_countLost hB hC1 hF1 h1
  · rw [iz_eq (by omega)]; intro e; subst e; exact h1
  · rw [iz_eq (by omega)]; intro e; subst e; exact h1
  · rw [iz_eq (by omega)]; intro e; subst e; exact c_countMistakes hB hWB hC1 hF1 h1
  · rw [iz_eq (by omega)]; intro e; subst e; exact c_whoKeepsWishes hB hWB hC1 hF1 h1
  · rw [iz_eq (by omega)]; intro e; subst e
    rw [iz_sub]
    refine cne (by omega) (fun e2 => ?_) (fun e2 => ?_)
    · have e1 : (nc b : Int) - 1 = ((nc b - 1 : Nat) : Int) := by omega
      rw [e1, iz_cl (by omega), (hF1.2.1.2.2 _ (by omega)).2.1]
      refine ⟨iz_in (by omega), ?_⟩
      rw [show cnt b w (gI σ 0 8) 6 = iz (nt b (nc b - 1)) by simp [cnt, show ¬ nc b = 0 by omega]] at h1; exact h1
    · rw [show cnt b w (gI σ 0 8) 6 = iz (-1) by simp [cnt, show nc b = 0 by omega]] at h1; exact h1
  · rw [iz_eq (by omega)]; intro e; subst e; exact c_countDoubtsForGood hB hWB hC1 hF1 h1
  · rw [iz_eq (by omega)]; intro e; subst e; exact h1
  · repeat rw [iz_eq (by omega)]
    intro e0 e1 e2 e3 e4 e5 e6 e7 e8
    rw [show cnt b w (gI σ 0 8) q = iz (-2) by simp [cnt, e0, e1, e2, e3, e4, e5, e6, e7, e8]] at h1; exact h1
