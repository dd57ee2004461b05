/-! ===== the class: questions ===== -/
theorem c_within {σ : SS} {K : SS → Int32 → Prop} {z l u : Int} (hz : -9223372036854775808 ≤ z ∧ z < 9223372036854775808) (hl : (-2147483648 ≤ l ∧ l < 2147483648) ∧ -2147483648 ≤ u ∧ u < 2147483648) (h : K σ (bz (decide (l ≤ z ∧ z ≤ u)))) : wp_X5_isWithin σ (lz z) (iz l) (iz u) K := by
  unfold wp_X5_isWithin
  rw [iz_l (by omega), iz_l (by omega), lg_cmp_lt, lg_cmp_gt, lz_lt (by omega), lz_lt (by omega)]
  refine ⟨fun e => ?_, fun e => ⟨fun e2 => ?_, fun e2 => ?_⟩⟩
  · rw [show decide (l ≤ z ∧ z ≤ u) = false by simp; omega] at h; exact h
  · rw [show decide (l ≤ z ∧ z ≤ u) = false by simp; omega] at h; exact h
  · rw [show decide (l ≤ z ∧ z ≤ u) = true by simp; omega] at h; exact h
theorem c_win {σ : SS} {K : SS → Int32 → Prop} {z l u : Int} (hz : -2147483648 ≤ z ∧ z < 2147483648) (hl : (-2147483648 ≤ l ∧ l < 2147483648) ∧ -2147483648 ≤ u ∧ u < 2147483648) (h : K σ (bz (decide (l ≤ z ∧ z ≤ u)))) : wp_X5_isWithin σ (iz z).toInt64 (iz l) (iz u) K := by
  rw [iz_l hz]; exact c_within (by omega) hl h
theorem laF_stop {b : BT} {t : Int} {i : Nat} (hi : i < nc b) (h : t < nt b i) : ∀ m, i ≤ m → m ≤ nc b → laF b t m = laF b t i := by
  intro m
  induction m with
  | zero => intro h1 _; rw [show i = 0 by omega]
  | succ m ih =>
    intro h1 h2
    by_cases e : i = m + 1
    · rw [e]
    · have h3 := nt_mono (b := b) (show i ≤ m by omega) (by omega)
      rw [laF, if_neg (by omega)]
      exact ih (by omega) (by omega)
theorem la_is {b : BT} {t : Int} {i : Nat} (h : la b t = (i : Int)) : i < nc b ∧ nt b i ≤ t ∧ ∀ j, i < j → j < nc b → t < nt b j := by
  have key : ∀ m, m ≤ nc b → laF b t m = (i : Int) → i < m ∧ nt b i ≤ t ∧ ∀ j, i < j → j < m → t < nt b j := by
    intro m
    induction m with
    | zero => intro _ h; simp [laF] at h
    | succ m ih =>
      intro hm h
      unfold laF at h
      by_cases e : nt b m ≤ t
      · rw [if_pos e] at h
        have : i = m := by omega
        subst this
        exact ⟨by omega, e, fun j h1 h2 => by omega⟩
      · rw [if_neg e] at h
        obtain ⟨h1, h2, h3⟩ := ih (by omega) h
        refine ⟨by omega, h2, fun j h4 h5 => ?_⟩
        by_cases e2 : j = m
        · subst e2; omega
        · exact h3 j h4 (by omega)
  exact key _ (Nat.le_refl _) h
theorem la_no {b : BT} {t : Int} (h : la b t = -1) : ∀ j, j < nc b → t < nt b j := by
  have key : ∀ m, m ≤ nc b → laF b t m = -1 → ∀ j, j < m → t < nt b j := by
    intro m
    induction m with
    | zero => intro _ _ j hj; omega
    | succ m ih =>
      intro hm h j hj
      unfold laF at h
      by_cases e : nt b m ≤ t
      · rw [if_pos e] at h; omega
      · rw [if_neg e] at h
        by_cases e2 : j = m
        · subst e2; omega
        · exact ih (by omega) h j (by omega)
  exact key _ (Nat.le_refl _) h
theorem c_latestAt {σ : SS} {a : Nat} {b : BT} {K : SS → Int32 → Prop} (hB : BB b) (hA : CA σ a b) {t : Int} (ht : 0 ≤ t ∧ t ≤ 6000) (h : K σ (iz (la b t))) : wp_X0_latestAt σ a (iz t) K := by
  have r5 := nc_40 hB
  unfold wp_X0_latestAt
  simp only [ize]
  refine fx4_i (fun σ1 x1 x2 x3 => σ1 = σ ∧ x1 = iz t ∧ ∃ i : Nat, i ≤ nc b ∧ x3 = iz i ∧ x2 = iz (laF b t i)) (fun _ _ _ x3 => 50 - x3.toNatClampNeg) ?_ _ _ _ _ ⟨rfl, rfl, 0, Nat.zero_le _, rfl, rfl⟩
  rintro L σ1 x1 x2 x3 ⟨rfl, rfl, i, hi, rfl, rfl⟩ hL
  unfold lb_X0_latestAt_4
  rw [hA.1.1]
  simp only [ize]
  refine cle (by omega) (fun e => ?_) (fun e => ?_)
  · have e3 : i = nc b := by omega
    subst e3; exact h
  · have hi2 : i < nc b := by omega
    have rn := nt_rng hB hi2
    rw [iz_cl (by omega), (hA.2.2 i hi2).2.1]
    refine ⟨iz_in (by omega), clt (by omega) (fun e1 => ?_) (fun e1 => ?_)⟩
    · have := laF_stop hi2 e1 (nc b) (by omega) (Nat.le_refl _)
      unfold la at h; rw [this] at h; exact h
    · refine hL _ _ _ _ ⟨rfl, rfl, i + 1, by omega, iz_s i, by rw [laF, if_pos (by omega)]⟩ ?_
      rw [iz_s, iz_cl (by omega), iz_cl (by omega)]; omega
theorem c_gapCountBy {σ : SS} {a : Nat} {b : BT} {K : SS → Int32 → Prop} (hB : BB b) (hA : CA σ a b) {i : Nat} (hi : i < 40) (h : K σ (iz (gp b i))) : wp_X0_gapCountBy σ a (iz i) K := by
  have r := hB.2.2.2
  unfold wp_X0_gapCountBy
  rw [hA.1.2.2, if_iz (by omega)]
  rw [show (if (bW b : Int) < (i : Int) then (bW b : Int) else (i : Int)) = (gp b i : Int) by unfold gp; split <;> omega]
  exact h
theorem c_countGapsBelow {σ : SS} {a : Nat} {b : BT} {K : SS → Int32 → Prop} (hB : BB b) (hA : CA σ a b) {i : Nat} (hi : i < nc b) {far : Int} (hf : -100000 ≤ far ∧ far ≤ 100000) (h : K σ (iz (lt b i far))) : wp_X0_countGapsBelow σ a (iz i) (iz far) K := by
  have r5 := nc_40 hB
  have rg := gp_rng hB i
  unfold wp_X0_countGapsBelow
  simp only [ize]
  refine fx5_i (fun σ1 x1 x2 x3 x4 => σ1 = σ ∧ x1 = iz i ∧ x2 = iz far ∧ ∃ k : Nat, k ≤ gp b i ∧ x4 = iz ((i - k : Nat) : Int) ∧ x3 = iz (fb_ct (fun k => decide (gap b i k < far)) k)) (fun _ _ _ _ x4 => x4.toNatClampNeg) ?_ _ _ _ _ _ ⟨rfl, rfl, rfl, 0, Nat.zero_le _, rfl, rfl⟩
  rintro L σ1 x1 x2 x3 x4 ⟨rfl, rfl, rfl, k, hk, rfl, rfl⟩ hL
  unfold lb_X0_countGapsBelow_5
  simp only [ize]
  refine c_gapCountBy hB hA (by omega) ?_
  rw [iz_sub]
  refine cle (by omega) (fun e => ?_) (fun e => ?_)
  · rw [show k = gp b i by omega]; exact h
  · have rr := gap_rng hB (k := k) hi
    have hc := fb_ct_le (fun k => decide (gap b i k < far)) k
    have e1 : ((i - k : Nat) : Int) - 1 = ((i - k - 1 : Nat) : Int) := by omega
    have em : iz ((i - k : Nat) : Int) + iz (-1) = iz ((i - (k + 1) : Nat) : Int) := by rw [iz_add]; congr 1
    have hmu : (iz ((i - k : Nat) : Int) + iz (-1)).toNatClampNeg < (iz ((i - k : Nat) : Int)).toNatClampNeg := by
      rw [em, iz_cl (by omega), iz_cl (by omega)]; omega
    rw [iz_sub, e1, iz_cl (by omega), iz_cl (by omega), (hA.2.2 (i - k) (by omega)).2.1, (hA.2.2 (i - k - 1) (by omega)).2.1, iz_sub, show nt b (i - k) - nt b (i - k - 1) = gap b i k from rfl]
    refine ⟨iz_in (by omega), iz_in (by omega), cle (by omega) (fun e2 => ?_) (fun e2 => ?_)⟩
    · refine hL _ _ _ _ _ ⟨rfl, rfl, rfl, k + 1, by omega, em, ?_⟩ hmu
      rw [fb_ct_succ, show decide (gap b i k < far) = false by simp; omega]; simp
    · refine hL _ _ _ _ _ ⟨rfl, rfl, rfl, k + 1, by omega, em, ?_⟩ hmu
      rw [fb_ct_succ, show decide (gap b i k < far) = true by simp; omega, iz_s]; rfl
theorem c_terms {σ : SS} {K : SS → Int64 → Prop} {a c q : Int} (ha : 0 ≤ a ∧ a ≤ 100000) (hc : 1 ≤ c ∧ c ≤ 40) (hq : -2147483648 ≤ q ∧ q < 2147483648) (h : K σ (lz (pt a c q))) : wp_X5_inLowestTerms σ (iz a) (iz c) (iz q) K := by
  obtain ⟨a, rfl⟩ := Int.eq_ofNat_of_zero_le ha.1
  obtain ⟨c, rfl⟩ := Int.eq_ofNat_of_zero_le (show 0 ≤ c by omega)
  have hg : Int.gcd (a : Int) (c : Int) = Nat.gcd a c := rfl
  have hgp : 0 < Nat.gcd a c := Nat.gcd_pos_of_pos_right _ (by omega)
  have hgl : Nat.gcd a c ≤ c := Nat.gcd_le_right _ (by omega)
  unfold pt at h
  rw [hg] at h
  have fin : (¬ iz q = iz 0 → bl_X5_inLowestTerms_15 K σ (iz (Nat.gcd a c : Int)) (iz c)) ∧ (iz q = iz 0 → bl_X5_inLowestTerms_15 K σ (iz (Nat.gcd a c : Int)) (iz a)) := by
    unfold bl_X5_inLowestTerms_15
    simp only [ize]
    rw [iz_div (by omega), iz_div (by omega)]
    have q1 : (0 : Int) ≤ (c : Int) / (Nat.gcd a c : Int) ∧ (c : Int) / (Nat.gcd a c : Int) ≤ c := ⟨Int.ediv_nonneg (by omega) (by omega), Int.ediv_le_self _ (by omega)⟩
    have q2 : (0 : Int) ≤ (a : Int) / (Nat.gcd a c : Int) ∧ (a : Int) / (Nat.gcd a c : Int) ≤ a := ⟨Int.ediv_nonneg (by omega) (by omega), Int.ediv_le_self _ (by omega)⟩
    refine cne (by omega) (fun e1 => cne (by omega) (fun e2 => ⟨by rw [iz_eq (by omega)]; omega, ?_⟩) (fun e2 => by omega)) (fun e1 => cne (by omega) (fun e2 => ⟨by rw [iz_eq (by omega)]; omega, ?_⟩) (fun e2 => by omega))
    · rw [if_neg e1] at h; rw [iz_l (by omega)]; exact h
    · rw [if_pos e1] at h; rw [iz_l (by omega)]; exact h
  unfold wp_X5_inLowestTerms wp_X5_greatestDivisor
  simp only [ize]
  refine fx4_i (fun σ1 x2 x3 x4 => σ1 = σ ∧ ∃ m n s : Nat, x2 = iz m ∧ x3 = iz n ∧ x4 = iz s ∧ Nat.gcd m n = Nat.gcd a c ∧ m ≤ 100000 ∧ s + n ≤ 40) (fun _ _ x3 _ => x3.toNatClampNeg) ?_ _ _ _ _ ⟨rfl, a, c, 0, rfl, rfl, rfl, rfl, by omega, by omega⟩
  rintro L σ1 x2 x3 x4 ⟨rfl, m, n, s, rfl, rfl, rfl, hmn, hm, hs⟩ hL
  unfold lb_X5_greatestDivisor_7
  simp only [ize]
  refine cle (by omega) (fun e => by omega) (fun _ => ceq (by omega) (fun e2 => ?_) (fun e2 => ⟨by rw [iz_eq (by omega)]; exact e2, ?_⟩))
  · have e0 : n = 0 := by omega
    subst e0
    rw [Nat.gcd_zero_right] at hmn
    subst hmn
    exact fin
  · have hn0 : 0 < n := by omega
    have hlt : m % n < n := Nat.mod_lt _ hn0
    rw [iz_rem (by omega), show (m : Int) % (n : Int) = ((m % n : Nat) : Int) by omega]
    refine hL _ _ _ _ ⟨rfl, n, m % n, s + 1, rfl, rfl, iz_s s, ?_, by omega, by omega⟩ ?_
    · rw [← hmn, Nat.gcd_comm n (m % n), ← Nat.gcd_rec, Nat.gcd_comm]
    · rw [iz_cl (by omega), iz_cl (by omega)]; omega
theorem c_asLong {σ : SS} {K : SS → Int64 → Prop} {z : Int} (h : K σ (noL z)) : wp_X5_asLong σ (iz z) K := h
theorem c_isWatcher {σ : SS} {w : WT} {K : SS → Int32 → Prop} (hW : CWt σ w) (hWB : WB w) {z : Int} (hz : -2147483648 ≤ z ∧ z < 2147483648) (h : K σ (bz (decide (0 ≤ z ∧ z < wN w)))) : wp_X5_isWatcher σ (iz z) K := by
  have r := hWB.1
  unfold wp_X5_isWatcher
  rw [hW.1]
  simp only [ize, iz_sub]
  refine c_win hz (by omega) ?_
  rw [show decide (0 ≤ z ∧ z ≤ (wN w : Int) - 1) = decide (0 ≤ z ∧ z < (wN w : Int)) by congr 1; apply propext; omega]
  exact ⟨bz_or _, h⟩
def rCame (b : BT) (z q : Int) : Int32 := if (0 ≤ z ∧ z < bN b) ∧ 0 ≤ q ∧ q ≤ 2 then iz (cm b z.toNat q) else iz (-2)
def rNews (b : BT) (z q : Int) : Int32 := if (0 ≤ z ∧ z < nc b) ∧ 0 ≤ q ∧ q ≤ 2 then iz (nwV b z.toNat q) else iz (-2)
def rExp (b : BT) (z q : Int) : Int64 := if (0 ≤ z ∧ z < nc b) ∧ 0 ≤ q ∧ q ≤ 1 then exL b z.toNat q else noL (-2)
def rSc (b : BT) (t q : Int) : Int64 := if (0 ≤ t ∧ t ≤ 6000) ∧ 0 ≤ q ∧ q ≤ 1 then sc b t q else noL (-2)
def rInf (b : BT) (w : WT) (z q : Int) : Int32 := if (0 ≤ z ∧ z < wN w) ∧ 0 ≤ q ∧ q ≤ 9 then iz (inf b w z.toNat q) else iz (-2)
def rLed (b : BT) (w : WT) (z k q : Int) : Int32 := if ((0 ≤ z ∧ z < wN w) ∧ 0 ≤ q ∧ q ≤ 2) ∧ 0 ≤ k ∧ k < mc b (wS w z.toNat) (wM w z.toNat) (nc b) then iz (led b (wS w z.toNat) (wM w z.toNat) q (mp b (wS w z.toNat) (wM w z.toNat) k.toNat)) else iz (-2)
def rLim (b : BT) (w : WT) (z i : Int) : Int32 := if (0 ≤ z ∧ z < wN w) ∧ 0 ≤ i ∧ i < nc b then iz (bg b (wS w z.toNat) (wM w z.toNat) i.toNat) else iz (-2)
def rDts (b : BT) (w : WT) (t : Int) : Int32 := if 0 ≤ t ∧ t ≤ 6000 then dts b w t else iz (-2)
def rNtc (b : BT) (w : WT) (z : Int) : Int32 := if 0 ≤ z ∧ z < wN w then iz (ntc b (wS w z.toNat) (wM w z.toNat)) else iz (-2)
def rLst (b : BT) (so m : Int) : Int32 := if (0 ≤ so ∧ so ≤ 2) ∧ 0 ≤ m ∧ m ≤ 40 then iz (lst b so m) else iz (-2)
def rLon (b : BT) (w : WT) (z : Int) : Int32 := if 0 ≤ z ∧ z < wN w then iz (gr b w z.toNat 1) else iz (-2)
theorem rd_f {σ σ' : SS} {b : BT} {w : WT} (h1 : cq σ σ') (h2 : CI0 σ' b w) (h3 : FO σ' b w) : rd σ σ' b w := ⟨h1, h2, fun _ => h3⟩
theorem c_came {σ : SS} {b : BT} {w : WT} {K : SS → Int32 → Prop} (hB : BB b) (hWB : WB w) (hC : CI0 σ b w) {z q : Int} (hz : -2147483648 ≤ z ∧ z < 2147483648) (hq : -2147483648 ≤ q ∧ q < 2147483648) (h : ∀ σ', rd σ σ' b w → K σ' (rCame b z q)) : wp_X5_came σ (iz z) (iz q) K := by
  have hn := hB.1.1
  have h0 := h σ (rd_r hC)
  unfold wp_X5_came
  rw [hC.1.1.1]
  simp only [ize, iz_sub]
  refine c_win hz (by omega) (bz_d (fun e1 => ?_) (fun e1 => ?_))
  · simp only [decide_eq_true_eq] at e1
    refine c_win hq (by omega) (bz_c (fun e2 => ?_) (fun e2 => ?_))
    · simp only [decide_eq_true_eq] at e2
      refine c_followArrivals hB hWB hC (fun σ1 hq1 hC1 hF1 => ?_)
      have h1 := h σ1 (rd_f hq1 hC1 hF1)
      rw [rCame, if_pos (by omega)] at h1
      obtain ⟨k, rfl⟩ := Int.eq_ofNat_of_zero_le e1.1
      simp only [Int.toNat_natCast] at h1
      have hk : k < bN b := by omega
      have rt := tm_rng hB (k := k) (by omega)
      rw [iz_cl (by omega), (hF1.2.1.2.1 k hk).1, (hF1.2.1.2.1 k hk).2, hC1.1.1.2.1]
      refine ⟨iz_in (by omega), ?_, ?_, ?_⟩
      · rw [iz_eq (by omega)]; intro e3; subst e3
        refine cne (by omega) (fun e4 => ⟨iz_in (by omega), ?_⟩) (fun e4 => ?_)
        · have hl : lo b k = false := by cases hh : lo b k with | false => rfl | true => exact absurd (tm_t hh) e4
          rw [show cm b k 0 = bD b k by simp [cm, hl]] at h1; exact h1
        · have hl : lo b k = true := by cases hh : lo b k with | true => rfl | false => have := tm_pos hB (k := k) (by omega) hh; omega
          rw [show cm b k 0 = -1 by simp [cm, hl]] at h1; exact h1
      · rw [iz_eq (by omega)]; intro e3; subst e3; exact h1
      · rw [iz_eq (by omega), iz_eq (by omega)]; intro e3 e4
        rw [show cm b k q = ni b k by simp [cm, e3, e4]] at h1
        exact ⟨iz_in (by omega), h1⟩
    · simp only [decide_eq_false_iff_not] at e2
      rw [rCame, if_neg (by omega)] at h0; exact h0
  · simp only [decide_eq_false_iff_not] at e1
    rw [rCame, if_neg (by omega)] at h0; exact h0
theorem c_news {σ : SS} {b : BT} {w : WT} {K : SS → Int32 → Prop} (hB : BB b) (hWB : WB w) (hC : CI0 σ b w) {z q : Int} (hz : -2147483648 ≤ z ∧ z < 2147483648) (hq : -2147483648 ≤ q ∧ q < 2147483648) (h : ∀ σ', rd σ σ' b w → K σ' (rNews b z q)) : wp_X5_news σ (iz z) (iz q) K := by
  have r5 := nc_40 hB
  unfold wp_X5_news
  refine c_followArrivals hB hWB hC (fun σ1 hq1 hC1 hF1 => ?_)
  have h1 := h σ1 (rd_f hq1 hC1 hF1)
  rw [hF1.2.1.1.1]
  simp only [ize, iz_sub]
  refine c_win hz (by omega) (bz_d (fun e1 => ?_) (fun e1 => ?_))
  · simp only [decide_eq_true_eq] at e1
    refine c_win hq (by omega) (bz_c (fun e2 => ?_) (fun e2 => ?_))
    · simp only [decide_eq_true_eq] at e2
      rw [rNews, if_pos (by omega)] at h1
      obtain ⟨i, rfl⟩ := Int.eq_ofNat_of_zero_le e1.1
      simp only [Int.toNat_natCast] at h1
      have hi : i < nc b := by omega
      rw [iz_cl (by omega), (hF1.2.1.2.2 i hi).1, (hF1.2.1.2.2 i hi).2.1]
      refine ⟨?_, ?_, ?_⟩
      · rw [iz_eq (by omega)]; intro e3; subst e3; exact ⟨iz_in (by omega), h1⟩
      · rw [iz_eq (by omega)]; intro e3; subst e3; exact ⟨iz_in (by omega), h1⟩
      · rw [iz_eq (by omega), iz_eq (by omega)]; intro e3 e4
        rw [show nwV b i q = (gp b i : Int) by simp [nwV, e3, e4]] at h1
        exact c_gapCountBy hB hF1.2.1 (by omega) h1
    · simp only [decide_eq_false_iff_not] at e2
      rw [rNews, if_neg (by omega)] at h1; exact h1
  · simp only [decide_eq_false_iff_not] at e1
    rw [rNews, if_neg (by omega)] at h1; exact h1
theorem c_expected {σ : SS} {b : BT} {w : WT} {K : SS → Int64 → Prop} (hB : BB b) (hWB : WB w) (hC : CI0 σ b w) {z q : Int} (hz : -2147483648 ≤ z ∧ z < 2147483648) (hq : -2147483648 ≤ q ∧ q < 2147483648) (h : ∀ σ', rd σ σ' b w → K σ' (rExp b z q)) : wp_X5_expected σ (iz z) (iz q) K := by
  have r5 := nc_40 hB
  unfold wp_X5_expected
  refine c_followArrivals hB hWB hC (fun σ1 hq1 hC1 hF1 => ?_)
  have h1 := h σ1 (rd_f hq1 hC1 hF1)
  rw [hF1.2.1.1.1]
  simp only [ize, iz_sub]
  refine c_win hz (by omega) (bz_d (fun e1 => ?_) (fun e1 => c_asLong ?_))
  · simp only [decide_eq_true_eq] at e1
    refine c_win hq (by omega) (bz_c (fun e2 => ?_) (fun e2 => c_asLong ?_))
    · simp only [decide_eq_true_eq] at e2
      rw [rExp, if_pos (by omega)] at h1
      obtain ⟨i, rfl⟩ := Int.eq_ofNat_of_zero_le e1.1
      simp only [Int.toNat_natCast] at h1
      have hi : i < nc b := by omega
      have ra := ab_rng hB hi
      have rb := bl_rng hB i
      rw [iz_cl (by omega), (hF1.2.1.2.2 i hi).2.2.1, (hF1.2.1.2.2 i hi).2.2.2.1]
      exact ⟨iz_in (by omega), iz_in (by omega), c_terms (by omega) (by omega) hq h1⟩
    · simp only [decide_eq_false_iff_not] at e2
      rw [rExp, if_neg (by omega)] at h1; exact h1
  · simp only [decide_eq_false_iff_not] at e1
    rw [rExp, if_neg (by omega)] at h1; exact h1
theorem c_score {σ : SS} {b : BT} {w : WT} {K : SS → Int64 → Prop} (hB : BB b) (hWB : WB w) (hC : CI0 σ b w) {t q : Int} (ht : -2147483648 ≤ t ∧ t < 2147483648) (hq : -2147483648 ≤ q ∧ q < 2147483648) (h : ∀ σ', rd σ σ' b w → K σ' (rSc b t q)) : wp_X5_score σ (iz t) (iz q) K := by
  have r5 := nc_40 hB
  have h0 := h σ (rd_r hC)
  unfold wp_X5_score
  simp only [ize]
  refine c_win ht (by omega) (bz_d (fun e1 => ?_) (fun e1 => c_asLong ?_))
  · simp only [decide_eq_true_eq] at e1
    refine c_win hq (by omega) (bz_c (fun e2 => ?_) (fun e2 => c_asLong ?_))
    · simp only [decide_eq_true_eq] at e2
      refine c_followArrivals hB hWB hC (fun σ1 hq1 hC1 hF1 => ?_)
      have h1 := h σ1 (rd_f hq1 hC1 hF1)
      rw [rSc, if_pos (by omega)] at h1
      have rl := laF_rng b t (nc b)
      refine c_latestAt hB hF1.2.1 e1 ?_
      rw [show laF b t (nc b) = la b t from rfl] at rl
      refine ceq (by omega) (fun e3 => c_asLong ?_) (fun e3 => ?_)
      · rw [show sc b t q = noL (-3) from if_pos (by omega)] at h1; exact h1
      · obtain ⟨i, hi⟩ := Int.eq_ofNat_of_zero_le (show 0 ≤ la b t by omega)
        rw [hi] at rl ⊢
        have hi2 : i < nc b := by omega
        have rn := nt_rng hB hi2
        have rg := gp_rng hB i
        refine c_gapCountBy hB hF1.2.1 (by omega) (cne (by omega) (fun e4 => ?_) (fun e4 => c_asLong ?_))
        · rw [iz_cl (by omega), (hF1.2.1.2.2 i hi2).2.1, iz_sub]
          have rt := lt_le b i (t - nt b i)
          refine ⟨iz_in (by omega), c_countGapsBelow hB hF1.2.1 hi2 (by omega) (c_gapCountBy hB hF1.2.1 (by omega) (c_terms (by omega) (by omega) hq ?_))⟩
          unfold sc at h1
          have hi1 : 1 ≤ i := by unfold gp at e4; omega
          rw [hi, if_neg (by omega)] at h1
          simp only [Int.toNat_natCast] at h1
          exact h1
        · have hi0 : i = 0 := by have := hB.2.2.2; unfold gp at e4; omega
          rw [show sc b t q = noL (-3) from if_pos (by omega)] at h1; exact h1
    · simp only [decide_eq_false_iff_not] at e2
      rw [rSc, if_neg (by omega)] at h0; exact h0
  · simp only [decide_eq_false_iff_not] at e1
    rw [rSc, if_neg (by omega)] at h0; exact h0
theorem c_info {σ : SS} {b : BT} {w : WT} {K : SS → Int32 → Prop} (hB : BB b) (hWB : WB w) (hC : CI0 σ b w) {z q : Int} (hz : -2147483648 ≤ z ∧ z < 2147483648) (hq : -2147483648 ≤ q ∧ q < 2147483648) (h : ∀ σ', rd σ σ' b w → K σ' (rInf b w z q)) : wp_X5_info σ (iz z) (iz q) K := by
  have r := hWB.1
  have h0 := h σ (rd_r hC)
  unfold wp_X5_info
  simp only [ize]
  refine c_isWatcher hC.1.2 hWB hz (bz_d (fun e1 => ?_) (fun e1 => ?_))
  · simp only [decide_eq_true_eq] at e1
    refine c_win hq (by omega) (bz_c (fun e2 => ?_) (fun e2 => ?_))
    · simp only [decide_eq_true_eq] at e2
      refine c_followArrivals hB hWB hC (fun σ1 hq1 hC1 hF1 => ?_)
      have h1 := h σ1 (rd_f hq1 hC1 hF1)
      rw [rInf, if_pos (by omega)] at h1
      obtain ⟨k, rfl⟩ := Int.eq_ofNat_of_zero_le e1.1
      simp only [Int.toNat_natCast] at h1
      have hk : k < wN w := by omega
      have hw := hC1.1.2.2 k (by omega)
      have hD := hF1.2.2 k hk
      rw [iz_cl (by omega), show 26 + 6 * k + 1 = 27 + 6 * k by omega, hw.1, hw.2.1, hw.2.2.1, hw.2.2.2, hD.1.1, hD.1.2.1, hD.1.2.2.1, hD.1.2.2.2.1, hD.1.2.2.2.2]
      refine ⟨iz_in (by omega), ?_, ?_, ?_, ?_, ?_, ?_, ?_, ?_, ?_, ?_⟩
      · rw [iz_eq (by omega)]; intro e; subst e; exact h1
      · rw [iz_eq (by omega)]; intro e; subst e; exact h1
      · rw [iz_eq (by omega)]; intro e; subst e; exact h1
      · rw [iz_eq (by omega)]; intro e; subst e; exact h1
      · rw [iz_eq (by omega)]; intro e; subst e; exact h1
      · rw [iz_eq (by omega)]; intro e; subst e; exact h1
      · rw [iz_eq (by omega)]; intro e; subst e; exact h1
      · rw [iz_eq (by omega)]; intro e; subst e; exact h1
      · rw [iz_eq (by omega)]; intro e; subst e
        refine c_keepsWishes hB (hWB.2 k hk).1 hD hw.2.2.1 hw.2.2.2 (hWB.2 k hk).2 (bz_d (fun e2 => ?_) (fun e2 => ?_))
        · rw [show inf b w k 8 = 1 by simp [inf, kpt, e2]] at h1; exact h1
        · rw [show inf b w k 8 = 0 by simp [inf, kpt, e2]] at h1; exact h1
      · repeat rw [iz_eq (by omega)]
        intro a0 a1 a2 a3 a4 a5 a6 a7 a8
        rw [show inf b w k q = fg b (wS w k) (wM w k) by simp [inf, a0, a1, a2, a3, a4, a5, a6, a7, a8]] at h1; exact h1
    · simp only [decide_eq_false_iff_not] at e2
      rw [rInf, if_neg (by omega)] at h0; exact h0
  · simp only [decide_eq_false_iff_not] at e1
    rw [rInf, if_neg (by omega)] at h0; exact h0
theorem c_ledger {σ : SS} {b : BT} {w : WT} {K : SS → Int32 → Prop} (hB : BB b) (hWB : WB w) (hC : CI0 σ b w) {z k q : Int} (hz : -2147483648 ≤ z ∧ z < 2147483648) (hk : -2147483648 ≤ k ∧ k < 2147483648) (hq : -2147483648 ≤ q ∧ q < 2147483648) (h : ∀ σ', rd σ σ' b w → K σ' (rLed b w z k q)) : wp_X5_ledger σ (iz z) (iz k) (iz q) K := by
  have r := hWB.1
  have r5 := nc_40 hB
  have h0 := h σ (rd_r hC)
  unfold wp_X5_ledger
  simp only [ize]
  refine c_isWatcher hC.1.2 hWB hz (bz_d (fun e1 => ?_) (fun e1 => ?_))
  · simp only [decide_eq_true_eq] at e1
    refine c_win hq (by omega) (bz_c (fun e2 => ?_) (fun e2 => ?_))
    · simp only [decide_eq_true_eq] at e2
      refine c_followArrivals hB hWB hC (fun σ1 hq1 hC1 hF1 => ?_)
      have h1 := h σ1 (rd_f hq1 hC1 hF1)
      obtain ⟨j, rfl⟩ := Int.eq_ofNat_of_zero_le e1.1
      have hj : j < wN w := by omega
      have hD := hF1.2.2 j hj
      have rmc := mc_le b (wS w j) (wM w j) (nc b)
      rw [iz_cl (show j < 2147483648 by omega), show 26 + 6 * j + 1 = 27 + 6 * j by omega, hD.1.1, iz_sub]
      refine ⟨iz_in (by omega), c_win hk (by omega) (bz_c (fun e3 => ?_) (fun e3 => ?_))⟩
      · simp only [decide_eq_true_eq] at e3
        obtain ⟨m, rfl⟩ := Int.eq_ofNat_of_zero_le e3.1
        unfold rLed at h1
        simp only [Int.toNat_natCast] at h1
        rw [if_pos (by omega)] at h1
        have hm : m < mc b (wS w j) (wM w j) (nc b) := by omega
        have hmp := mp_lt hm
        have hmi := mi_iff.mp hmp.2.1
        rw [iz_cl (show m < 2147483648 by omega), hD.2.2 m hm, iz_s, iz_cl (by omega), iz_cl (by omega), (hF1.2.1.2.2 _ hmi.2.1).2.1, hD.2.1 _ hmp.1]
        refine ⟨iz_in (by omega), ?_, ?_, ?_⟩
        · rw [iz_eq (by omega)]; intro e; subst e; exact ⟨iz_in (by omega), h1⟩
        · rw [iz_eq (by omega)]; intro e; subst e; exact ⟨iz_in (by omega), h1⟩
        · rw [iz_eq (by omega), iz_eq (by omega)]; intro a0 a1
          rw [led, if_neg a0, if_neg a1] at h1; exact h1
      · simp only [decide_eq_false_iff_not] at e3
        unfold rLed at h1
        simp only [Int.toNat_natCast] at h1
        rw [if_neg (by omega)] at h1; exact h1
    · simp only [decide_eq_false_iff_not] at e2
      rw [rLed, if_neg (by omega)] at h0; exact h0
  · simp only [decide_eq_false_iff_not] at e1
    rw [rLed, if_neg (by omega)] at h0; exact h0
theorem c_limit {σ : SS} {b : BT} {w : WT} {K : SS → Int32 → Prop} (hB : BB b) (hWB : WB w) (hC : CI0 σ b w) {z i : Int} (hz : -2147483648 ≤ z ∧ z < 2147483648) (hi : -2147483648 ≤ i ∧ i < 2147483648) (h : ∀ σ', rd σ σ' b w → K σ' (rLim b w z i)) : wp_X5_limit σ (iz z) (iz i) K := by
  have r := hWB.1
  have r5 := nc_40 hB
  unfold wp_X5_limit
  refine c_followArrivals hB hWB hC (fun σ1 hq1 hC1 hF1 => ?_)
  have h1 := h σ1 (rd_f hq1 hC1 hF1)
  simp only [ize]
  refine c_isWatcher hC1.1.2 hWB hz (bz_d (fun e1 => ?_) (fun e1 => ?_))
  · simp only [decide_eq_true_eq] at e1
    rw [hF1.2.1.1.1, iz_sub]
    refine c_win hi (by omega) (bz_c (fun e2 => ?_) (fun e2 => ?_))
    · simp only [decide_eq_true_eq] at e2
      obtain ⟨k, rfl⟩ := Int.eq_ofNat_of_zero_le e1.1
      obtain ⟨j, rfl⟩ := Int.eq_ofNat_of_zero_le e2.1
      rw [rLim, if_pos (by omega)] at h1
      simp only [Int.toNat_natCast] at h1
      rw [iz_cl (show k < 2147483648 by omega), iz_cl (show j < 2147483648 by omega), show 26 + 6 * k + 1 + 1 = 27 + 6 * k + 1 by omega, (hF1.2.2 k (by omega)).2.1 j (by omega)]
      exact ⟨iz_in (by omega), iz_in (by omega), h1⟩
    · simp only [decide_eq_false_iff_not] at e2
      rw [rLim, if_neg (by omega)] at h1; exact h1
  · simp only [decide_eq_false_iff_not] at e1
    rw [rLim, if_neg (by omega)] at h1; exact h1
