/-! ===== the reference: fractions in lowest terms, came, news, expected, score ===== -/
theorem lze : (0 : Int64) = lz 0 ∧ (1 : Int64) = lz 1 ∧ (99 : Int64) = lz 99 ∧ (-1 : Int64) = lz (-1) := ⟨rfl, rfl, rfl, rfl⟩
theorem lz_lN (k : Nat) : lN k = lz (k : Int) := Int64.ofInt_eq_ofNat.symm
def pt (a c q : Int) : Int := if q = 0 then a / (Int.gcd a c : Int) else c / (Int.gcd a c : Int)
theorem m_partOf {τ : SS} {K : SS → Int64 → Prop} {a c q : Int} (ha : 0 ≤ a ∧ a ≤ 100000) (hc : 1 ≤ c ∧ c ≤ 100000) (hq : -2147483648 ≤ q ∧ q < 2147483648) (h : K τ (lz (pt a c q))) : wp_X6_partOf τ (lz a) (lz c) (iz q) K := by
  obtain ⟨a, rfl⟩ := Int.eq_ofNat_of_zero_le ha.1
  obtain ⟨c, rfl⟩ := Int.eq_ofNat_of_zero_le (show 0 ≤ c by omega)
  have hg : Int.gcd (a : Int) (c : Int) = Nat.gcd a c := rfl
  have hgp : 0 < Nat.gcd a c := Nat.gcd_pos_of_pos_right _ (by omega)
  have hgl : Nat.gcd a c ≤ c := Nat.gcd_le_right _ (by omega)
  unfold pt at h
  rw [hg] at h
  unfold wp_X6_partOf
  rw [lg_cmp_ge, lze.1, lz_le (by omega)]
  refine ⟨fun _ => ?_, fun e => absurd (by omega) e⟩
  refine fx6_i (fun σ x0 x2 x4 x5 x7 => σ = τ ∧ x0 = lz a ∧ x2 = lz c ∧ x4 = iz q ∧ ∃ m n : Nat, x5 = lz m ∧ x7 = lz n ∧ Nat.gcd m n = Nat.gcd a c ∧ m ≤ 100000 ∧ n ≤ 100000) (fun _ _ _ _ _ x7 => x7.toInt.toNat) ?_ _ _ _ _ _ _ ⟨rfl, rfl, rfl, rfl, a, c, rfl, rfl, rfl, by omega, by omega⟩
  rintro L σ x0 x2 x4 x5 x7 ⟨rfl, rfl, rfl, rfl, m, n, rfl, rfl, hmn, hm, hn⟩ hL
  unfold lb_X6_partOf_17
  rw [lg_cmp_eq, lze.1, lz_eq (by omega)]
  refine ⟨fun e => ?_, fun e => ⟨e, ?_⟩⟩
  · have e0 : n = 0 := by omega
    subst e0
    rw [Nat.gcd_zero_right] at hmn
    subst hmn
    unfold bl_X6_partOf_42
    rw [lze.1, lz_eq (by omega)]
    simp only [ize]
    refine cne (by omega) (fun e1 => ⟨by omega, ?_⟩) (fun e1 => ⟨by omega, ?_⟩)
    · rw [if_neg e1] at h
      rw [← lz_lN, ← lz_lN, pk_lDiv (by omega) (by omega) (by omega), lz_lN]; exact h
    · rw [if_pos e1] at h
      rw [← lz_lN, ← lz_lN, pk_lDiv (by omega) (by omega) (by omega), lz_lN]; exact h
  · have hn0 : 0 < n := by omega
    have hlt : m % n < n := Nat.mod_lt _ hn0
    have hrem : lz (m : Int) - lz (m : Int) / lz (n : Int) * lz (n : Int) = lz ((m % n : Nat) : Int) := by
      rw [← lz_lN m, ← lz_lN n, pk_lRem (by omega) (by omega) (by omega), lz_lN]
    rw [hrem]
    refine hL _ _ _ _ _ _ ⟨rfl, rfl, rfl, rfl, n, m % n, rfl, rfl, ?_, by omega, by omega⟩ ?_
    · rw [← hmn, Nat.gcd_comm n (m % n), ← Nat.gcd_rec, Nat.gcd_comm]
    · rw [lz_toInt (by omega), lz_toInt (by omega)]; omega
def noL (z : Int) : Int64 := -9223372036854775808 - (iz z).toInt64
theorem m_no {τ : SS} {K : SS → Int64 → Prop} {z : Int} (h : K τ (noL z)) : wp_X6_no τ (iz z) K := h
/-- which news a beat is -/
def ni (b : BT) (k : Nat) : Int := if nw b k then (fb_ct (nw b) k : Int) else -1
def cm (b : BT) (k : Nat) (q : Int) : Int := if q = 0 then (if lo b k then -1 else bD b k) else if q = 1 then tm b k else ni b k
theorem nb_eq {b : BT} {i k : Nat} (hi : i < nc b) : nb b i = k ↔ nw b k = true ∧ fb_ct (nw b) k = i := by
  constructor
  · rintro rfl; exact (nb_lt hi).2
  · rintro ⟨h1, h2⟩
    exact fb_ct_kth_one (nb_lt hi).2.1 h1 ((nb_lt hi).2.2.trans h2.symm)
theorem m_cameOf {τ : SS} {b : BT} {K : SS → Int32 → Prop} (hM : MB τ b) (hB : BB b) {k : Nat} (hk : k < bN b) {q : Int} (hq : -2147483648 ≤ q ∧ q < 2147483648) (h : ∀ τ', pe τ τ' → MN τ' b → K τ' (iz (cm b k q))) : wp_X6_cameOf τ (iz k) (iz q) K := by
  have r5 := nc_40 hB
  have r6 := hB.1.1
  unfold wp_X6_cameOf
  refine m_findsNews hM hB (fun τ1 hp hN _ => ?_)
  have hM1 := MB_pe hp hM
  have h1 := h τ1 hp hN
  simp only [ize]
  refine fx5_i (fun σ x1 x2 x3 x4 => σ = τ1 ∧ x1 = iz k ∧ x2 = iz q ∧ ∃ i : Nat, i ≤ nc b ∧ x4 = iz i ∧ x3 = iz (if nw b k = true ∧ fb_ct (nw b) k < i then (fb_ct (nw b) k : Int) else -1)) (fun _ _ _ _ x4 => 50 - x4.toNatClampNeg) ?_ _ _ _ _ _ ⟨rfl, rfl, rfl, 0, Nat.zero_le _, rfl, by simp⟩
  rintro L σ x1 x2 x3 x4 ⟨rfl, rfl, rfl, i, hi, rfl, rfl⟩ hL
  unfold lb_X6_cameOf_9
  simp only [hN.1]
  refine cle (by omega) (fun e => ?_) (fun e => ?_)
  · have e3 : i = nc b := by omega
    subst e3
    unfold bl_X6_cameOf_42
    simp only [ize]
    refine cne (by omega) (fun e1 => cne (by omega) (fun e2 => ?_) (fun e2 => ?_)) (fun e1 => ?_)
    · rw [show cm b k q = ni b k by simp [cm, e1, e2]] at h1
      unfold ni at h1
      cases hw : nw b k with
      | false => rw [hw] at h1; simp; exact h1
      | true =>
        rw [hw] at h1
        have : fb_ct (nw b) k < nc b := by
          have h2 := fb_ct_succ (nw b) k
          rw [hw] at h2
          have h3 := fb_ct_mono (nw b) (show k + 1 ≤ bN b by omega)
          unfold nc
          simp at h2; omega
        rw [if_pos ⟨rfl, this⟩]; exact h1
    · refine m_timeOf hM1 hB (by omega) ?_
      rw [show cm b k q = tm b k by simp [cm, e2]] at h1; exact h1
    · refine m_isLost hM1 hB (by omega) (bz_d (fun e2 => ?_) (fun e2 => ⟨iz_in (by omega), ?_⟩))
      · rw [show cm b k q = -1 by simp [cm, e1, e2]] at h1; exact h1
      · rw [iz_cl (by omega), hM1.2.1]
        rw [show cm b k q = bD b k by simp [cm, e1, e2]] at h1; exact h1
  · have hi2 : i < nc b := by omega
    have hb := nb_40 hB hi2
    have hmu : 50 - (iz (i : Int) + iz 1).toNatClampNeg < 50 - (iz (i : Int)).toNatClampNeg := by
      rw [iz_s, iz_cl (by omega), iz_cl (by omega)]; omega
    simp only [ize]
    rw [iz_cl (by omega), (hN.2 i hi2).1]
    refine ⟨iz_in (by omega), cne (by omega) (fun e1 => ?_) (fun e1 => ?_)⟩
    · refine hL _ _ _ _ _ ⟨rfl, rfl, rfl, i + 1, by omega, iz_s i, ?_⟩ hmu
      congr 1
      have e2 : ¬ (nw b k = true ∧ fb_ct (nw b) k = i) := fun q => e1 (by rw [(nb_eq hi2).mpr q])
      by_cases e3 : nw b k = true ∧ fb_ct (nw b) k < i
      · rw [if_pos e3, if_pos ⟨e3.1, by omega⟩]
      · rw [if_neg e3, if_neg (fun q => e2 ⟨q.1, by have := q.2; have : ¬ fb_ct (nw b) k < i := fun z => e3 ⟨q.1, z⟩; omega⟩)]
    · refine hL _ _ _ _ _ ⟨rfl, rfl, rfl, i + 1, by omega, iz_s i, ?_⟩ hmu
      have e2 := (nb_eq hi2).mp (show nb b i = k by omega)
      rw [if_pos ⟨e2.1, by omega⟩, e2.2]
def nwV (b : BT) (i : Nat) (q : Int) : Int := if q = 0 then (nb b i : Int) else if q = 1 then nt b i else (gp b i : Int)
theorem m_newsOf {τ : SS} {b : BT} {K : SS → Int32 → Prop} (hM : MB τ b) (hN : MN τ b) (hB : BB b) {i : Nat} (hi : i < nc b) {q : Int} (hq : -2147483648 ≤ q ∧ q < 2147483648) (h : K τ (iz (nwV b i q))) : wp_X6_newsOf τ (iz i) (iz q) K := by
  have r5 := nc_40 hB
  unfold wp_X6_newsOf
  rw [iz_cl (by omega), (hN.2 i hi).1, (hN.2 i hi).2]
  simp only [ize]
  refine cne (by omega) (fun e1 => cne (by omega) (fun e2 => ?_) (fun e2 => ⟨iz_in (by omega), ?_⟩)) (fun e1 => ⟨iz_in (by omega), ?_⟩)
  · refine m_gapsBy hM hB (by omega) ?_
    rw [show nwV b i q = (gp b i : Int) by simp [nwV, e1, e2]] at h; exact h
  · rw [show nwV b i q = nt b i by simp [nwV, e2]] at h; exact h
  · rw [show nwV b i q = (nb b i : Int) by simp [nwV, e1]] at h; exact h
theorem m_hasNews {τ : SS} {b : BT} {K : SS → Int32 → Prop} (hM : MB τ b) (hB : BB b) {z : Int} (hz : -2147483648 ≤ z ∧ z < 2147483648) (h : ∀ τ', pe τ τ' → MN τ' b → K τ' (bz (decide (0 ≤ z ∧ z < nc b)))) : wp_X6_hasNews τ (iz z) K := by
  have r5 := nc_40 hB
  unfold wp_X6_hasNews
  refine m_findsNews hM hB (fun τ1 hp hN _ => ?_)
  simp only [ize, hN.1, iz_sub]
  refine m_in hz (by omega) ?_
  rw [show decide (0 ≤ z ∧ z ≤ (nc b : Int) - 1) = decide (0 ≤ z ∧ z < (nc b : Int)) by congr 1; apply propext; omega]
  exact ⟨bz_or _, h τ1 hp hN⟩
/-- the latest news at t, of the first n, or -1 -/
def laF (b : BT) (t : Int) : Nat → Int
  | 0 => -1
  | i + 1 => if nt b i ≤ t then (i : Int) else laF b t i
def la (b : BT) (t : Int) : Int := laF b t (nc b)
theorem laF_rng (b : BT) (t : Int) : ∀ i, -1 ≤ laF b t i ∧ laF b t i < i
  | 0 => by simp [laF]
  | i + 1 => by
    have := laF_rng b t i
    unfold laF
    split <;> omega
def exL (b : BT) (i : Nat) (q : Int) : Int64 := lz (pt (ab b i) (bl b i) q)
def sc (b : BT) (t q : Int) : Int64 := if la b t < 1 then noL (-3) else lz (pt (lt b (la b t).toNat (t - nt b (la b t).toNat)) (gp b (la b t).toNat) q)
theorem m_scoreOf {τ : SS} {b : BT} {K : SS → Int64 → Prop} (hM : MB τ b) (hB : BB b) {t : Int} (ht : 0 ≤ t ∧ t ≤ 6000) {q : Int} (hq : -2147483648 ≤ q ∧ q < 2147483648) (h : ∀ τ', pe τ τ' → K τ' (sc b t q)) : wp_X6_scoreOf τ (iz t) (iz q) K := by
  have r5 := nc_40 hB
  unfold wp_X6_scoreOf
  refine m_findsNews hM hB (fun τ1 hp hN _ => ?_)
  have hM1 := MB_pe hp hM
  have h1 := h τ1 hp
  simp only [ize]
  refine fx5_i (fun σ x1 x2 x3 x4 => σ = τ1 ∧ x1 = iz t ∧ x2 = iz q ∧ ∃ i : Nat, i ≤ nc b ∧ x4 = iz i ∧ x3 = iz (laF b t i)) (fun _ _ _ _ x4 => 50 - x4.toNatClampNeg) ?_ _ _ _ _ _ ⟨rfl, rfl, rfl, 0, Nat.zero_le _, rfl, rfl⟩
  rintro L σ x1 x2 x3 x4 ⟨rfl, rfl, rfl, i, hi, rfl, rfl⟩ hL
  have rl := laF_rng b t i
  unfold lb_X6_scoreOf_9
  simp only [ize, hN.1]
  refine cle (by omega) (fun e => ?_) (fun e => ?_)
  · have e3 : i = nc b := by omega
    subst e3
    unfold bl_X6_scoreOf_42
    simp only [ize]
    refine cle (by omega) (fun e1 => ?_) (fun e1 => m_no ?_)
    · obtain ⟨j, hj⟩ := Int.eq_ofNat_of_zero_le (show 0 ≤ laF b t (nc b) by omega)
      rw [hj] at e1 rl ⊢
      have hj2 : j < nc b := by omega
      have rn := nt_rng hB hj2
      have rg := gp_rng hB j
      have rg2 : 1 ≤ gp b j := by have := hB.2.2.2; unfold gp; omega
      rw [iz_cl (by omega), (hN.2 j hj2).2, iz_sub]
      refine ⟨iz_in (by omega), m_lessThan hM1 hN hB hj2 (by omega) (m_gapsBy hM1 hB (by omega) ?_)⟩
      have rt := lt_le b j (t - nt b j)
      rw [iz_l (by omega), iz_l (by omega)]
      refine m_partOf (by omega) (by omega) hq ?_
      unfold sc la at h1
      rw [hj, if_neg (by omega)] at h1
      simp only [Int.toNat_natCast] at h1
      exact h1
    · rw [show sc b t q = noL (-3) from if_pos (by unfold la; omega)] at h1; exact h1
  · have hi2 : i < nc b := by omega
    have rn := nt_rng hB hi2
    have hmu : 50 - (iz (i : Int) + iz 1).toNatClampNeg < 50 - (iz (i : Int)).toNatClampNeg := by
      rw [iz_s, iz_cl (by omega), iz_cl (by omega)]; omega
    rw [iz_cl (by omega), (hN.2 i hi2).2]
    refine ⟨iz_in (by omega), clt (by omega) (fun e1 => ?_) (fun e1 => ?_)⟩
    · exact hL _ _ _ _ _ ⟨rfl, rfl, rfl, i + 1, by omega, iz_s i, by rw [laF, if_neg (by omega)]⟩ hmu
    · exact hL _ _ _ _ _ ⟨rfl, rfl, rfl, i + 1, by omega, iz_s i, by rw [laF, if_pos (by omega)]⟩ hmu
