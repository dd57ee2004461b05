/-! ===== what both hold, and the questions of both ===== -/
/-- sheets: form (-1: lost), size, whole items, numbers, which are no numbers -/
abbrev S1 : Type := Int × Nat × (Nat → Int64) × (Nat → UInt64) × (Nat → Bool)
abbrev ST : Type := Nat → S1
def qF (v : S1) : Int := v.1
def qN (v : S1) : Nat := v.2.1
def qL (v : S1) : Nat → Int64 := v.2.2.1
def qD (v : S1) : Nat → UInt64 := v.2.2.2.1
def qB (v : S1) : Nat → Bool := v.2.2.2.2
def CS1 (σ : SS) (p : Nat) (v : S1) : Prop := gI σ p 0 = bz (decide (qF v = -1)) ∧ (¬ qF v = -1 → gI σ p 1 = iz (qF v) ∧ gI σ p 2 = iz (qN v)) ∧ (qF v = 0 → ∀ i, i < qN v → gL σ (p + 1) i = qL v i) ∧ (qF v = 1 → ∀ i, i < qN v → gA σ (p + 3) i = bz (qB v i) ∧ (qB v i = false → gD σ (p + 2) i = qD v i))
def MS1 (τ : SS) (s : Nat) (v : S1) : Prop := gA τ 110 s = iz (qF v) ∧ (¬ qF v = -1 → gA τ 111 s = iz (qN v)) ∧ (qF v = 0 → ∀ i, i < qN v → gL τ 112 (40 * s + i) = qL v i) ∧ (qF v = 1 → ∀ i, i < qN v → gA τ 114 (40 * s + i) = bz (qB v i) ∧ (qB v i = false → gD τ 113 (40 * s + i) = qD v i))
def SB1 (v : S1) : Prop := (-1 ≤ qF v ∧ qF v ≤ 1) ∧ qN v ≤ 40 ∧ (qF v = 1 → ∀ i, i < qN v → qB v i = false → vf_n64 (qD v i))
abbrev AT : Type := BT × WT × ST × Int32
def CI (σ : SS) (a : AT) : Prop := CI0 σ a.1 a.2.1 ∧ (∀ s, s < 4 → CS1 σ (56 + 4 * s) (a.2.2.1 s)) ∧ gI σ 0 8 = a.2.2.2
def MI (τ : SS) (a : AT) : Prop := (MB τ a.1 ∧ MW τ a.2.1) ∧ (∀ s, s < 4 → MS1 τ s (a.2.2.1 s)) ∧ gI τ 100 27 = a.2.2.2
def AB (a : AT) : Prop := BB a.1 ∧ WB a.2.1 ∧ ∀ s, s < 4 → SB1 (a.2.2.1 s)
theorem CS1_cq {σ σ' : SS} (h : cq σ σ') {p : Nat} (hp : 56 ≤ p) {v : S1} (hC : CS1 σ p v) : CS1 σ' p v := by
  have hL : gL σ' = gL σ := by unfold gL; rw [h.2.2.2]
  have hD : gD σ' = gD σ := by unfold gD; rw [h.2.2.2]
  unfold CS1
  rw [(h.2.2.1 p hp).1, (h.2.2.1 p hp).1, (h.2.2.1 p hp).1, (h.2.2.1 (p + 3) (by omega)).2, hL, hD]
  exact hC
theorem CI_rd {σ σ' : SS} {a : AT} (h : rd σ σ' a.1 a.2.1) (hC : CI σ a) : CI σ' a :=
  ⟨h.2.1, fun s hs => CS1_cq h.1 (by omega) (hC.2.1 s hs), ((h.1.1.1 8).resolve_left (by decide)).trans hC.2.2⟩
theorem MS1_pe {τ τ' : SS} (h : pe τ τ') {s : Nat} {v : S1} (hM : MS1 τ s v) : MS1 τ' s v := by
  have hL : gL τ' = gL τ := by unfold gL; rw [h.2.2]
  have hD : gD τ' = gD τ := by unfold gD; rw [h.2.2]
  unfold MS1
  rw [pe_A h 110 (by decide), pe_A h 111 (by decide), pe_A h 114 (by decide), hL, hD]
  exact hM
theorem MI_pe {τ τ' : SS} {a : AT} (h : pe τ τ') (hM : MI τ a) : MI τ' a :=
  ⟨⟨MB_pe h hM.1.1, MW_pe h hM.1.2⟩, fun s hs => MS1_pe h (hM.2.1 s hs), (pe_I h 27 (by decide)).trans hM.2.2⟩
def prI (C M : (SS → Int32 → Prop) → Prop) : Prop := ∃ r a', AB a' ∧ C (fun σ' x => CI σ' a' ∧ x = r) ∧ M (fun τ' x => MI τ' a' ∧ x = r)
def prL (C M : (SS → Int64 → Prop) → Prop) : Prop := ∃ r a', AB a' ∧ C (fun σ' x => CI σ' a' ∧ x = r) ∧ M (fun τ' x => MI τ' a' ∧ x = r)
theorem m_isBeat {τ : SS} {b : BT} {K : SS → Int32 → Prop} (hM : MB τ b) (hB : BB b) {z : Int} (hz : -2147483648 ≤ z ∧ z < 2147483648) (h : K τ (bz (decide (0 ≤ z ∧ z < bN b)))) : wp_X6_isBeat τ (iz z) K := by
  have r := hB.1.1
  unfold wp_X6_isBeat
  rw [hM.1]
  simp only [ize, iz_sub]
  refine m_in hz (by omega) ?_
  rw [show decide (0 ≤ z ∧ z ≤ (bN b : Int) - 1) = decide (0 ≤ z ∧ z < (bN b : Int)) by congr 1; apply propext; omega]
  exact ⟨bz_or _, h⟩
theorem m_isWatcher {τ : SS} {w : WT} {K : SS → Int32 → Prop} (hW : MW τ w) (hWB : WB w) {z : Int} (hz : -2147483648 ≤ z ∧ z < 2147483648) (h : K τ (bz (decide (0 ≤ z ∧ z < wN w)))) : wp_X6_isWatcher τ (iz z) K := by
  have r := hWB.1
  unfold wp_X6_isWatcher
  rw [hW.1]
  simp only [ize, iz_sub]
  refine m_in hz (by omega) ?_
  rw [show decide (0 ≤ z ∧ z ≤ (wN w : Int) - 1) = decide (0 ≤ z ∧ z < (wN w : Int)) by congr 1; apply propext; omega]
  exact ⟨bz_or _, h⟩
theorem m_came {τ : SS} {b : BT} {K : SS → Int32 → Prop} (hM : MB τ b) (hB : BB b) {z q : Int} (hz : -2147483648 ≤ z ∧ z < 2147483648) (hq : -2147483648 ≤ q ∧ q < 2147483648) (h : ∀ τ', pe τ τ' → K τ' (rCame b z q)) : wp_X6_came τ (iz z) (iz q) K := by
  have h0 := h τ (pe_r τ)
  unfold wp_X6_came
  simp only [ize]
  refine m_isBeat hM hB hz (bz_d (fun e1 => ?_) (fun e1 => ?_))
  · simp only [decide_eq_true_eq] at e1
    refine m_in hq (by omega) (bz_d (fun e2 => ?_) (fun e2 => ?_))
    · simp only [decide_eq_true_eq] at e2
      obtain ⟨k, rfl⟩ := Int.eq_ofNat_of_zero_le e1.1
      refine m_cameOf hM hB (by omega) hq (fun τ1 hp _ => ?_)
      have h1 := h τ1 hp
      rw [rCame, if_pos (by omega), Int.toNat_natCast] at h1; exact h1
    · simp only [decide_eq_false_iff_not] at e2
      rw [rCame, if_neg (by omega)] at h0; exact h0
  · simp only [decide_eq_false_iff_not] at e1
    rw [rCame, if_neg (by omega)] at h0; exact h0
theorem m_news {τ : SS} {b : BT} {K : SS → Int32 → Prop} (hM : MB τ b) (hB : BB b) {z q : Int} (hz : -2147483648 ≤ z ∧ z < 2147483648) (hq : -2147483648 ≤ q ∧ q < 2147483648) (h : ∀ τ', pe τ τ' → K τ' (rNews b z q)) : wp_X6_news τ (iz z) (iz q) K := by
  unfold wp_X6_news
  simp only [ize]
  refine m_hasNews hM hB hz (fun τ1 hp hN => bz_d (fun e1 => ?_) (fun e1 => ?_))
  · simp only [decide_eq_true_eq] at e1
    have h1 := h τ1 hp
    refine m_in hq (by omega) (bz_d (fun e2 => ?_) (fun e2 => ?_))
    · simp only [decide_eq_true_eq] at e2
      obtain ⟨k, rfl⟩ := Int.eq_ofNat_of_zero_le e1.1
      refine m_newsOf (MB_pe hp hM) hN hB (by omega) hq ?_
      rw [rNews, if_pos (by omega), Int.toNat_natCast] at h1; exact h1
    · simp only [decide_eq_false_iff_not] at e2
      rw [rNews, if_neg (by omega)] at h1; exact h1
  · simp only [decide_eq_false_iff_not] at e1
    have h1 := h τ1 hp
    rw [rNews, if_neg (by omega)] at h1; exact h1
theorem m_expected {τ : SS} {b : BT} {K : SS → Int64 → Prop} (hM : MB τ b) (hB : BB b) {z q : Int} (hz : -2147483648 ≤ z ∧ z < 2147483648) (hq : -2147483648 ≤ q ∧ q < 2147483648) (h : ∀ τ', pe τ τ' → K τ' (rExp b z q)) : wp_X6_expected τ (iz z) (iz q) K := by
  have r5 := nc_40 hB
  unfold wp_X6_expected
  simp only [ize]
  refine m_hasNews hM hB hz (fun τ1 hp hN => bz_d (fun e1 => ?_) (fun e1 => m_no ?_))
  · simp only [decide_eq_true_eq] at e1
    have h1 := h τ1 hp
    refine m_in hq (by omega) (bz_d (fun e2 => ?_) (fun e2 => m_no ?_))
    · simp only [decide_eq_true_eq] at e2
      obtain ⟨k, rfl⟩ := Int.eq_ofNat_of_zero_le e1.1
      have hi2 : k < nc b := by omega
      have ra := ab_rng hB hi2
      have rb := bl_rng hB k
      refine m_aboveBy (MB_pe hp hM) hN hB hi2 (m_belowBy (MB_pe hp hM) hB (by omega) ?_)
      rw [iz_l (by omega), iz_l (by omega)]
      refine m_partOf (by omega) (by omega) (by omega) ?_
      rw [rExp, if_pos (by omega), Int.toNat_natCast] at h1; exact h1
    · simp only [decide_eq_false_iff_not] at e2
      rw [rExp, if_neg (by omega)] at h1; exact h1
  · simp only [decide_eq_false_iff_not] at e1
    have h1 := h τ1 hp
    rw [rExp, if_neg (by omega)] at h1; exact h1
theorem m_score {τ : SS} {b : BT} {K : SS → Int64 → Prop} (hM : MB τ b) (hB : BB b) {t q : Int} (ht : -2147483648 ≤ t ∧ t < 2147483648) (hq : -2147483648 ≤ q ∧ q < 2147483648) (h : ∀ τ', pe τ τ' → K τ' (rSc b t q)) : wp_X6_score τ (iz t) (iz q) K := by
  have h0 := h τ (pe_r τ)
  unfold wp_X6_score
  simp only [ize]
  refine m_in ht (by omega) (bz_d (fun e1 => ?_) (fun e1 => m_no ?_))
  · simp only [decide_eq_true_eq] at e1
    refine m_in hq (by omega) (bz_d (fun e2 => ?_) (fun e2 => m_no ?_))
    · simp only [decide_eq_true_eq] at e2
      refine m_scoreOf hM hB e1 hq (fun τ1 hp => ?_)
      have h1 := h τ1 hp
      rw [rSc, if_pos (by omega)] at h1; exact h1
    · simp only [decide_eq_false_iff_not] at e2
      rw [rSc, if_neg (by omega)] at h0; exact h0
  · simp only [decide_eq_false_iff_not] at e1
    rw [rSc, if_neg (by omega)] at h0; exact h0
theorem m_info {τ : SS} {b : BT} {w : WT} {K : SS → Int32 → Prop} (hM : MB τ b) (hB : BB b) (hW : MW τ w) (hWB : WB w) {z q : Int} (hz : -2147483648 ≤ z ∧ z < 2147483648) (hq : -2147483648 ≤ q ∧ q < 2147483648) (h : ∀ τ', pe τ τ' → K τ' (rInf b w z q)) : wp_X6_info τ (iz z) (iz q) K := by
  have h0 := h τ (pe_r τ)
  unfold wp_X6_info
  simp only [ize]
  refine m_isWatcher hW hWB hz (bz_d (fun e1 => ?_) (fun e1 => ?_))
  · simp only [decide_eq_true_eq] at e1
    refine m_in hq (by omega) (bz_d (fun e2 => ?_) (fun e2 => ?_))
    · simp only [decide_eq_true_eq] at e2
      obtain ⟨k, rfl⟩ := Int.eq_ofNat_of_zero_le e1.1
      refine m_infoOf hM hB hW hWB (by omega) hq (fun τ1 hp => ?_)
      have h1 := h τ1 hp
      rw [rInf, if_pos (by omega), Int.toNat_natCast] at h1; exact h1
    · simp only [decide_eq_false_iff_not] at e2
      rw [rInf, if_neg (by omega)] at h0; exact h0
  · simp only [decide_eq_false_iff_not] at e1
    rw [rInf, if_neg (by omega)] at h0; exact h0
theorem m_ledger {τ : SS} {b : BT} {w : WT} {K : SS → Int32 → Prop} (hM : MB τ b) (hB : BB b) (hW : MW τ w) (hWB : WB w) {z k q : Int} (hz : -2147483648 ≤ z ∧ z < 2147483648) (hk : -2147483648 ≤ k ∧ k < 2147483648) (hq : -2147483648 ≤ q ∧ q < 2147483648) (h : ∀ τ', pe τ τ' → K τ' (rLed b w z k q)) : wp_X6_ledger τ (iz z) (iz k) (iz q) K := by
  have h0 := h τ (pe_r τ)
  unfold wp_X6_ledger
  simp only [ize]
  refine m_isWatcher hW hWB hz (bz_d (fun e1 => ?_) (fun e1 => ?_))
  · simp only [decide_eq_true_eq] at e1
    refine clt (by omega) (fun e2 => ?_) (fun e2 => m_in hq (by omega) (bz_d (fun e3 => ?_) (fun e3 => ?_)))
    · rw [rLed, if_neg (by omega)] at h0; exact h0
    · simp only [decide_eq_true_eq] at e3
      obtain ⟨j, rfl⟩ := Int.eq_ofNat_of_zero_le e1.1
      refine m_ledgerOf hM hB hW hWB (by omega) (by omega) hq (fun τ1 hp => ?_)
      have h1 := h τ1 hp
      unfold rLed at h1
      simp only [Int.toNat_natCast] at h1
      by_cases e4 : k < (mc b (wS w j) (wM w j) (nc b) : Int)
      · rw [if_pos (by omega)] at h1; rw [if_pos e4]; exact h1
      · rw [if_neg (by omega)] at h1; rw [if_neg e4]; exact h1
    · simp only [decide_eq_false_iff_not] at e3
      rw [rLed, if_neg (by omega)] at h0; exact h0
  · simp only [decide_eq_false_iff_not] at e1
    rw [rLed, if_neg (by omega)] at h0; exact h0
theorem m_limit {τ : SS} {b : BT} {w : WT} {K : SS → Int32 → Prop} (hM : MB τ b) (hB : BB b) (hW : MW τ w) (hWB : WB w) {z i : Int} (hz : -2147483648 ≤ z ∧ z < 2147483648) (hi : -2147483648 ≤ i ∧ i < 2147483648) (h : ∀ τ', pe τ τ' → K τ' (rLim b w z i)) : wp_X6_limit τ (iz z) (iz i) K := by
  have h0 := h τ (pe_r τ)
  unfold wp_X6_limit
  simp only [ize]
  refine m_isWatcher hW hWB hz (bz_d (fun e1 => ?_) (fun e1 => ?_))
  · simp only [decide_eq_true_eq] at e1
    refine m_hasNews hM hB hi (fun τ1 hp hN => bz_d (fun e2 => ?_) (fun e2 => ?_))
    · simp only [decide_eq_true_eq] at e2
      obtain ⟨k, rfl⟩ := Int.eq_ofNat_of_zero_le e1.1
      obtain ⟨j, rfl⟩ := Int.eq_ofNat_of_zero_le e2.1
      refine m_limitOf (MB_pe hp hM) hB (MW_pe hp hW) hWB (by omega) (by omega) (fun τ2 hp2 => ?_)
      have h1 := h τ2 (pe_t hp hp2)
      rw [rLim, if_pos (by omega), Int.toNat_natCast, Int.toNat_natCast] at h1; exact h1
    · simp only [decide_eq_false_iff_not] at e2
      have h1 := h τ1 hp
      rw [rLim, if_neg (by omega)] at h1; exact h1
  · simp only [decide_eq_false_iff_not] at e1
    rw [rLim, if_neg (by omega)] at h0; exact h0
theorem m_doubts {τ : SS} {b : BT} {w : WT} {K : SS → Int32 → Prop} (hM : MB τ b) (hB : BB b) (hW : MW τ w) (hWB : WB w) {t : Int} (ht : -2147483648 ≤ t ∧ t < 2147483648) (h : ∀ τ', pe τ τ' → K τ' (rDts b w t)) : wp_X6_doubts τ (iz t) K := by
  have h0 := h τ (pe_r τ)
  unfold wp_X6_doubts
  simp only [ize]
  refine m_in ht (by omega) (bz_d (fun e1 => ?_) (fun e1 => ?_))
  · simp only [decide_eq_true_eq] at e1
    refine m_doubtsAt hM hB hW hWB e1 (fun τ1 hp => ?_)
    have h1 := h τ1 hp
    rw [rDts, if_pos e1] at h1; exact h1
  · simp only [decide_eq_false_iff_not] at e1
    rw [rDts, if_neg e1] at h0; exact h0
theorem m_noticed {τ : SS} {b : BT} {w : WT} {K : SS → Int32 → Prop} (hM : MB τ b) (hB : BB b) (hW : MW τ w) (hWB : WB w) {z : Int} (hz : -2147483648 ≤ z ∧ z < 2147483648) (h : ∀ τ', pe τ τ' → K τ' (rNtc b w z)) : wp_X6_noticed τ (iz z) K := by
  have h0 := h τ (pe_r τ)
  unfold wp_X6_noticed
  simp only [ize]
  refine m_isWatcher hW hWB hz (bz_d (fun e1 => ?_) (fun e1 => ?_))
  · simp only [decide_eq_true_eq] at e1
    obtain ⟨k, rfl⟩ := Int.eq_ofNat_of_zero_le e1.1
    refine m_noticedOf hM hB hW hWB (by omega) (fun τ1 hp => ?_)
    have h1 := h τ1 hp
    rw [rNtc, if_pos e1, Int.toNat_natCast] at h1; exact h1
  · simp only [decide_eq_false_iff_not] at e1
    rw [rNtc, if_neg e1] at h0; exact h0
theorem m_least {τ : SS} {b : BT} {K : SS → Int32 → Prop} (hM : MB τ b) (hB : BB b) {so m : Int} (hs : -2147483648 ≤ so ∧ so < 2147483648) (hm : -2147483648 ≤ m ∧ m < 2147483648) (h : ∀ τ', pe τ τ' → K τ' (rLst b so m)) : wp_X6_least τ (iz so) (iz m) K := by
  have h0 := h τ (pe_r τ)
  unfold wp_X6_least
  simp only [ize]
  refine m_in hs (by omega) (bz_d (fun e1 => ?_) (fun e1 => ?_))
  · simp only [decide_eq_true_eq] at e1
    refine m_in hm (by omega) (bz_d (fun e2 => ?_) (fun e2 => ?_))
    · simp only [decide_eq_true_eq] at e2
      refine m_leastOf hM hB e1 e2 (fun τ1 hp => ?_)
      have h1 := h τ1 hp
      rw [rLst, if_pos ⟨e1, e2⟩] at h1; exact h1
    · simp only [decide_eq_false_iff_not] at e2
      rw [rLst, if_neg (by omega)] at h0; exact h0
  · simp only [decide_eq_false_iff_not] at e1
    rw [rLst, if_neg (by omega)] at h0; exact h0
theorem m_longest {τ : SS} {b : BT} {w : WT} {K : SS → Int32 → Prop} (hM : MB τ b) (hB : BB b) (hW : MW τ w) (hWB : WB w) {z : Int} (hz : -2147483648 ≤ z ∧ z < 2147483648) (h : ∀ τ', pe τ τ' → K τ' (rLon b w z)) : wp_X6_longest τ (iz z) K := by
  have h0 := h τ (pe_r τ)
  unfold wp_X6_longest
  simp only [ize]
  refine m_isWatcher hW hWB hz (bz_d (fun e1 => ?_) (fun e1 => ?_))
  · simp only [decide_eq_true_eq] at e1
    obtain ⟨k, rfl⟩ := Int.eq_ofNat_of_zero_le e1.1
    have := m_greatest hM hB hW hWB (f := k) (n := 1) (by omega) (K := K) (fun τ1 hp => ?_)
    · rw [show (k : Int) + ((1 : Nat) : Int) - 1 = (k : Int) by omega] at this; exact this
    · have h1 := h τ1 hp
      rw [rLon, if_pos e1, Int.toNat_natCast] at h1; exact h1
  · simp only [decide_eq_false_iff_not] at e1
    rw [rLon, if_neg e1] at h0; exact h0
/-! the pairs of the questions -/
theorem p_came {σ τ : SS} {a : AT} (hA : AB a) (hC : CI σ a) (hM : MI τ a) (x y : Int32) : prI (wp_X5_came σ x y) (wp_X6_came τ x y) := by
  rw [← iz_of x, ← iz_of y]
  exact ⟨_, a, hA, c_came hA.1 hA.2.1 hC.1 (i_rng x) (i_rng y) (fun σ' hr => ⟨CI_rd hr hC, rfl⟩), m_came hM.1.1 hA.1 (i_rng x) (i_rng y) (fun τ' hp => ⟨MI_pe hp hM, rfl⟩)⟩
theorem p_news {σ τ : SS} {a : AT} (hA : AB a) (hC : CI σ a) (hM : MI τ a) (x y : Int32) : prI (wp_X5_news σ x y) (wp_X6_news τ x y) := by
  rw [← iz_of x, ← iz_of y]
  exact ⟨_, a, hA, c_news hA.1 hA.2.1 hC.1 (i_rng x) (i_rng y) (fun σ' hr => ⟨CI_rd hr hC, rfl⟩), m_news hM.1.1 hA.1 (i_rng x) (i_rng y) (fun τ' hp => ⟨MI_pe hp hM, rfl⟩)⟩
theorem p_expected {σ τ : SS} {a : AT} (hA : AB a) (hC : CI σ a) (hM : MI τ a) (x y : Int32) : prL (wp_X5_expected σ x y) (wp_X6_expected τ x y) := by
  rw [← iz_of x, ← iz_of y]
  exact ⟨_, a, hA, c_expected hA.1 hA.2.1 hC.1 (i_rng x) (i_rng y) (fun σ' hr => ⟨CI_rd hr hC, rfl⟩), m_expected hM.1.1 hA.1 (i_rng x) (i_rng y) (fun τ' hp => ⟨MI_pe hp hM, rfl⟩)⟩
theorem p_score {σ τ : SS} {a : AT} (hA : AB a) (hC : CI σ a) (hM : MI τ a) (x y : Int32) : prL (wp_X5_score σ x y) (wp_X6_score τ x y) := by
  rw [← iz_of x, ← iz_of y]
  exact ⟨_, a, hA, c_score hA.1 hA.2.1 hC.1 (i_rng x) (i_rng y) (fun σ' hr => ⟨CI_rd hr hC, rfl⟩), m_score hM.1.1 hA.1 (i_rng x) (i_rng y) (fun τ' hp => ⟨MI_pe hp hM, rfl⟩)⟩
theorem p_info {σ τ : SS} {a : AT} (hA : AB a) (hC : CI σ a) (hM : MI τ a) (x y : Int32) : prI (wp_X5_info σ x y) (wp_X6_info τ x y) := by
  rw [← iz_of x, ← iz_of y]
  exact ⟨_, a, hA, c_info hA.1 hA.2.1 hC.1 (i_rng x) (i_rng y) (fun σ' hr => ⟨CI_rd hr hC, rfl⟩), m_info hM.1.1 hA.1 hM.1.2 hA.2.1 (i_rng x) (i_rng y) (fun τ' hp => ⟨MI_pe hp hM, rfl⟩)⟩
theorem p_ledger {σ τ : SS} {a : AT} (hA : AB a) (hC : CI σ a) (hM : MI τ a) (x y z : Int32) : prI (wp_X5_ledger σ x y z) (wp_X6_ledger τ x y z) := by
  rw [← iz_of x, ← iz_of y, ← iz_of z]
  exact ⟨_, a, hA, c_ledger hA.1 hA.2.1 hC.1 (i_rng x) (i_rng y) (i_rng z) (fun σ' hr => ⟨CI_rd hr hC, rfl⟩), m_ledger hM.1.1 hA.1 hM.1.2 hA.2.1 (i_rng x) (i_rng y) (i_rng z) (fun τ' hp => ⟨MI_pe hp hM, rfl⟩)⟩
theorem p_limit {σ τ : SS} {a : AT} (hA : AB a) (hC : CI σ a) (hM : MI τ a) (x y : Int32) : prI (wp_X5_limit σ x y) (wp_X6_limit τ x y) := by
  rw [← iz_of x, ← iz_of y]
  exact ⟨_, a, hA, c_limit hA.1 hA.2.1 hC.1 (i_rng x) (i_rng y) (fun σ' hr => ⟨CI_rd hr hC, rfl⟩), m_limit hM.1.1 hA.1 hM.1.2 hA.2.1 (i_rng x) (i_rng y) (fun τ' hp => ⟨MI_pe hp hM, rfl⟩)⟩
theorem p_doubts {σ τ : SS} {a : AT} (hA : AB a) (hC : CI σ a) (hM : MI τ a) (x : Int32) : prI (wp_X5_doubts σ x) (wp_X6_doubts τ x) := by
  rw [← iz_of x]
  exact ⟨_, a, hA, c_doubts hA.1 hA.2.1 hC.1 (i_rng x) (fun σ' hr => ⟨CI_rd hr hC, rfl⟩), m_doubts hM.1.1 hA.1 hM.1.2 hA.2.1 (i_rng x) (fun τ' hp => ⟨MI_pe hp hM, rfl⟩)⟩
theorem p_noticed {σ τ : SS} {a : AT} (hA : AB a) (hC : CI σ a) (hM : MI τ a) (x : Int32) : prI (wp_X5_noticed σ x) (wp_X6_noticed τ x) := by
  rw [← iz_of x]
  exact ⟨_, a, hA, c_noticed hA.1 hA.2.1 hC.1 (i_rng x) (fun σ' hr => ⟨CI_rd hr hC, rfl⟩), m_noticed hM.1.1 hA.1 hM.1.2 hA.2.1 (i_rng x) (fun τ' hp => ⟨MI_pe hp hM, rfl⟩)⟩
theorem p_least {σ τ : SS} {a : AT} (hA : AB a) (hC : CI σ a) (hM : MI τ a) (x y : Int32) : prI (wp_X5_least σ x y) (wp_X6_least τ x y) := by
  rw [← iz_of x, ← iz_of y]
  exact ⟨_, a, hA, c_least hA.1 hA.2.1 hC.1 (i_rng x) (i_rng y) (fun σ' hr => ⟨CI_rd hr hC, rfl⟩), m_least hM.1.1 hA.1 (i_rng x) (i_rng y) (fun τ' hp => ⟨MI_pe hp hM, rfl⟩)⟩
theorem p_longest {σ τ : SS} {a : AT} (hA : AB a) (hC : CI σ a) (hM : MI τ a) (x : Int32) : prI (wp_X5_longest σ x) (wp_X6_longest τ x) := by
  rw [← iz_of x]
  exact ⟨_, a, hA, c_longest hA.1 hA.2.1 hC.1 (i_rng x) (fun σ' hr => ⟨CI_rd hr hC, rfl⟩), m_longest hM.1.1 hA.1 hM.1.2 hA.2.1 (i_rng x) (fun τ' hp => ⟨MI_pe hp hM, rfl⟩)⟩
theorem p_shared {σ τ : SS} {a : AT} (hA : AB a) (hC : CI σ a) (hM : MI τ a) : prI (wp_X5_shared σ) (wp_X6_shared τ) :=
  ⟨_, a, hA, c_shared hA.1 hA.2.1 hC.1 (fun σ' hr => ⟨CI_rd hr hC, rfl⟩), m_sharedNow hM.1.1 hA.1 hM.1.2 hA.2.1 (fun τ' hp => ⟨MI_pe hp hM, rfl⟩)⟩
theorem p_saved {σ τ : SS} {a : AT} (hA : AB a) (hC : CI σ a) (hM : MI τ a) : prI (wp_X5_saved σ) (wp_X6_saved τ) :=
  ⟨_, a, hA, c_saved hA.1 hA.2.1 hC.1 (fun σ' hr => ⟨CI_rd hr hC, rfl⟩), m_savedNow hM.1.1 hA.1 hM.1.2 hA.2.1 (fun τ' hp => ⟨MI_pe hp hM, rfl⟩)⟩
theorem p_count {σ τ : SS} {a : AT} (hA : AB a) (hC : CI σ a) (hM : MI τ a) (x : Int32) : prI (wp_X5_count σ x) (wp_X6_count τ x) := by
  rw [← iz_of x]
  exact ⟨_, a, hA, c_count hA.1 hA.2.1 hC.1 (i_rng x) (fun σ' hr => ⟨CI_rd hr hC, rfl⟩), m_count hM.1.1 hA.1 hM.1.2 hA.2.1 (hM.2.2.trans hC.2.2.symm) (i_rng x) (fun τ' hp => ⟨MI_pe hp hM, rfl⟩)⟩
theorem p_digest {σ τ : SS} {a : AT} (hA : AB a) (hC : CI σ a) (hM : MI τ a) : prL (wp_X5_digest σ) (wp_X6_digest τ) :=
  ⟨_, a, hA, c_digest hA.1 hA.2.1 hC.1 (fun σ' hr => ⟨CI_rd hr hC, rfl⟩), m_digest hM.1.1 hA.1 hM.1.2 hA.2.1 (hM.2.2.trans hC.2.2.symm) (fun τ' hp => ⟨MI_pe hp hM, rfl⟩)⟩
