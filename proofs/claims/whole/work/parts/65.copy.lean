/-! ===== sheets: copy, by the reference ===== -/
theorem lz_add (a b : Int) : lz a + lz b = lz (a + b) := (Int64.ofInt_add a b).symm
/-- the same but for what is being moved -/
def bfM (τ τ' : SS) : Prop := (∀ k, gI τ' 100 k = gI τ 100 k) ∧ (∀ p, p ≠ 117 → gA τ' p = gA τ p) ∧ (∀ p, p ≠ 115 → gL τ' p = gL τ p) ∧ ∀ p, p ≠ 116 → gD τ' p = gD τ p
theorem oM_bf {t : Nat} {τ τ' : SS} (h : bfM τ τ') : oM t τ τ' := ⟨⟨h.1, fun p hp => h.2.1 p (by omega)⟩, fun k _ => ⟨by rw [h.2.1 110 (by decide)], by rw [h.2.1 111 (by decide)]⟩, fun j _ => ⟨by rw [h.2.2.1 112 (by decide)], by rw [h.2.2.2 113 (by decide)], by rw [h.2.1 114 (by decide)]⟩⟩
theorem cel3 (s i k : Nat) : iz 40 * iz (s : Int) + iz (i : Int) + iz (k : Int) = iz ((40 * s + i + k : Nat) : Int) := by
  rw [iz_mul, iz_add, iz_add]; congr 1
theorem m_moves {τ : SS} {a : AT} {K : SS → Int32 → Prop} (hA : AB a) (hM : MI τ a) {s t i j n : Nat} (hs : s < 4) (ht : t < 4) (hF : qF (a.2.2.1 s) = qF (a.2.2.1 t)) (hl : ¬ qF (a.2.2.1 t) = -1) (h1 : i + n ≤ qN (a.2.2.1 s)) (h2 : j + n ≤ qN (a.2.2.1 t)) (h : ∀ τ', MI τ' (stA a t (cpS (a.2.2.1 s) (a.2.2.1 t) i j n)) → K τ' (iz 1)) : ∃ m, fx7 (lb_X6_copy_122 K) m τ (iz s) (iz i) (iz t) (iz j) (iz n) (iz 0) := by
  have n1 := (hA.2.2 s hs).2.1
  have n2 := (hA.2.2 t ht).2.1
  have cs := hM.2.1 s hs
  have ct := hM.2.1 t ht
  refine fx7_i (fun τ1 x1 x2 x3 x4 x5 x6 => x1 = iz s ∧ x2 = iz i ∧ x3 = iz t ∧ x4 = iz j ∧ x5 = iz n ∧ bfM τ τ1 ∧ ∃ k : Nat, k ≤ n ∧ x6 = iz k ∧ ∀ q, q < k → gL τ1 115 q = gL τ 112 (40 * s + i + q) ∧ gD τ1 116 q = gD τ 113 (40 * s + i + q) ∧ gA τ1 117 q = vp_nar .boolean (gA τ 114 (40 * s + i + q))) (fun _ _ _ _ _ _ x6 => 50 - x6.toNatClampNeg) ?_ _ _ _ _ _ _ _ ⟨rfl, rfl, rfl, rfl, rfl, ⟨fun _ => rfl, fun _ _ => rfl, fun _ _ => rfl, fun _ _ => rfl⟩, 0, Nat.zero_le _, rfl, fun q hq => absurd hq (Nat.not_lt_zero q)⟩
  rintro L τ1 x1 x2 x3 x4 x5 x6 ⟨rfl, rfl, rfl, rfl, rfl, hf, k, hk, rfl, hj⟩ hL
  unfold lb_X6_copy_122
  simp only [ize]
  refine cle (by omega) (fun e => ?_) (fun e => ?_)
  · have e3 : k = n := by omega
    subst e3
    refine fx5_i (fun τ2 x3 x4 x5 x6 => x3 = iz t ∧ x4 = iz j ∧ x5 = iz k ∧ oM t τ τ2 ∧ (gA τ2 110 = gA τ 110 ∧ gA τ2 111 = gA τ 111 ∧ gL τ2 115 = gL τ1 115 ∧ gD τ2 116 = gD τ1 116 ∧ gA τ2 117 = gA τ1 117) ∧ ∃ m : Nat, m ≤ k ∧ x6 = iz m ∧ ∀ q, (j ≤ q ∧ q < j + m → gL τ2 112 (40 * t + q) = gL τ1 115 (q - j) ∧ gD τ2 113 (40 * t + q) = gD τ1 116 (q - j) ∧ gA τ2 114 (40 * t + q) = vp_nar .boolean (gA τ1 117 (q - j))) ∧ (¬ (j ≤ q ∧ q < j + m) → gL τ2 112 (40 * t + q) = gL τ 112 (40 * t + q) ∧ gD τ2 113 (40 * t + q) = gD τ 113 (40 * t + q) ∧ gA τ2 114 (40 * t + q) = gA τ 114 (40 * t + q))) (fun _ _ _ _ x6 => 50 - x6.toNatClampNeg) ?_ _ _ _ _ _ ⟨rfl, rfl, rfl, oM_bf hf, ⟨hf.2.1 110 (by decide), hf.2.1 111 (by decide), rfl, rfl, rfl⟩, 0, Nat.zero_le _, rfl, fun q => ⟨fun z => by omega, fun _ => ⟨by rw [hf.2.2.1 112 (by decide)], by rw [hf.2.2.2 113 (by decide)], by rw [hf.2.1 114 (by decide)]⟩⟩⟩
    rintro L2 τ2 x3 x4 x5 x6 ⟨rfl, rfl, rfl, ho, ⟨b0, b1, b2, b3, b4⟩, m, hm, rfl, hj2⟩ hL2
    unfold lb_X6_copy_201
    simp only [ize]
    refine cle (by omega) (fun e => ?_) (fun e => ?_)
    · have e3 : m = k := by omega
      subst e3
      refine h _ (MI_oM hA ho hM ⟨by rw [b0]; exact ct.1, fun z => by rw [b1]; exact ct.2.1 z, fun z q hq => ?_, fun z q hq => ?_⟩)
      · have z : qF (a.2.2.1 t) = 0 := z
        have hq : q < qN (a.2.2.1 t) := hq
        show _ = (if j ≤ q ∧ q < j + m then qL (a.2.2.1 s) (i + q - j) else qL (a.2.2.1 t) q)
        by_cases e : j ≤ q ∧ q < j + m
        · rw [if_pos e, ((hj2 q).1 e).1, (hj (q - j) (by omega)).1, show 40 * s + i + (q - j) = 40 * s + (i + q - j) by omega]; exact cs.2.2.1 (hF.trans z) _ (by omega)
        · rw [if_neg e, ((hj2 q).2 e).1]; exact ct.2.2.1 z _ hq
      · have z : qF (a.2.2.1 t) = 1 := z
        have hq : q < qN (a.2.2.1 t) := hq
        show _ = bz (if j ≤ q ∧ q < j + m then qB (a.2.2.1 s) (i + q - j) else qB (a.2.2.1 t) q) ∧ ((if j ≤ q ∧ q < j + m then qB (a.2.2.1 s) (i + q - j) else qB (a.2.2.1 t) q) = false → _ = (if j ≤ q ∧ q < j + m then qD (a.2.2.1 s) (i + q - j) else qD (a.2.2.1 t) q))
        by_cases e : j ≤ q ∧ q < j + m
        · have g := (hj2 q).1 e
          have g2 := hj (q - j) (by omega)
          have c := cs.2.2.2 (hF.trans z) (i + q - j) (by omega)
          rw [show 40 * s + i + (q - j) = 40 * s + (i + q - j) by omega] at g2
          rw [if_pos e, if_pos e, g.2.2, g.2.1, g2.2.2, g2.2.1, c.1, nar_z, nar_z]; exact ⟨rfl, c.2⟩
        · have g := (hj2 q).2 e
          rw [if_neg e, if_neg e, g.2.2, g.2.1]; exact ct.2.2.2 z _ hq
    · rw [cel3, iz_cl (show m < 2147483648 by omega), iz_cl (show 40 * t + j + m < 2147483648 by omega), b2, b3, b4]
      refine ⟨iz_in (by omega), iz_in (by omega), iz_in (by omega), iz_in (by omega), iz_in (by omega), iz_in (by omega), ?_⟩
      rw [show 40 * t + j + m = 40 * t + (j + m) by omega]
      refine hL2 _ _ _ _ _ ⟨rfl, rfl, rfl, oM_t ho (oM_t (oM_t (oM_L (by omega)) (oM_D (by omega))) (oM_B (by omega))), ⟨?_, ?_, b2, b3, ?_⟩, m + 1, by omega, iz_s m, fun q => ?_⟩ ?_
      · rw [gA_sA_p _ _ _ _ (by decide)]; exact b0
      · rw [gA_sA_p _ _ _ _ (by decide)]; exact b1
      · rw [gA_sA_p _ _ _ _ (by decide)]; exact b4
      · rw [gL_sA, gL_sD, gL_sL_s, gD_sA, gD_sD_s, gA_sA_s]
        by_cases e : q = j + m
        · subst e
          rw [upL_s, upD_s, upd_s, show j + m - j = m by omega]
          exact ⟨fun _ => ⟨rfl, rfl, rfl⟩, fun z => absurd (show j ≤ j + m ∧ j + m < j + (m + 1) by omega) z⟩
        · rw [upL_n _ _ (by omega), upD_n _ _ (by omega), upd_n _ _ (by omega)]
          exact ⟨fun z => (hj2 q).1 (by omega), fun z => (hj2 q).2 (by omega)⟩
      · rw [iz_s, iz_cl (by omega), iz_cl (by omega)]; omega
  · rw [cel3, iz_cl (show k < 2147483648 by omega), iz_cl (show 40 * s + i + k < 2147483648 by omega), hf.2.2.1 112 (by decide), hf.2.2.2 113 (by decide), hf.2.1 114 (by decide)]
    refine ⟨iz_in (by omega), iz_in (by omega), iz_in (by omega), iz_in (by omega), iz_in (by omega), iz_in (by omega), ?_⟩
    refine hL _ _ _ _ _ _ _ ⟨rfl, rfl, rfl, rfl, rfl, ⟨hf.1, fun p hp => ?_, fun p hp => ?_, fun p hp => ?_⟩, k + 1, by omega, iz_s k, fun q hq => ?_⟩ ?_
    · rw [gA_sA_p _ _ _ _ hp]; exact hf.2.1 p hp
    · rw [gL_sA, gL_sD, gL_sL_p _ _ _ _ hp]; exact hf.2.2.1 p hp
    · rw [gD_sA, gD_sD_p _ _ _ _ hp]; exact hf.2.2.2 p hp
    · rw [gL_sA, gL_sD, gL_sL_s, gD_sA, gD_sD_s, gA_sA_s]
      by_cases e : q = k
      · subst e; rw [upL_s, upD_s, upd_s]; exact ⟨rfl, rfl, rfl⟩
      · rw [upL_n _ _ e, upD_n _ _ e, upd_n _ _ e]; exact hj q (by omega)
    · rw [iz_s, iz_cl (by omega), iz_cl (by omega)]; omega
def okC (i j n : Int) (ns nt : Nat) : Prop := (0 ≤ i ∧ 0 ≤ j ∧ 0 ≤ n) ∧ i + n ≤ ns ∧ j + n ≤ nt
theorem p_copy {σ τ : SS} {a : AT} (hA : AB a) (hC : CI σ a) (hM : MI τ a) (x1 x2 x3 x4 x5 : Int32) : prI (wp_X5_copy σ x1 x2 x3 x4 x5) (wp_X6_copy τ x1 x2 x3 x4 x5) := by
  have h1 := i_rng x1
  have h2 := i_rng x2
  have h3 := i_rng x3
  have h4 := i_rng x4
  have h5 := i_rng x5
  rw [← iz_of x1, ← iz_of x2, ← iz_of x3, ← iz_of x4, ← iz_of x5]
  generalize x1.toInt = z at h1
  generalize x2.toInt = i at h2
  generalize x3.toInt = y at h3
  generalize x4.toInt = j at h4
  generalize x5.toInt = n at h5
  by_cases e1 : (0 ≤ z ∧ z ≤ 3) ∧ 0 ≤ y ∧ y ≤ 3
  · obtain ⟨e1, e2⟩ := e1
    obtain ⟨s, rfl⟩ := Int.eq_ofNat_of_zero_le e1.1
    obtain ⟨t, rfl⟩ := Int.eq_ofNat_of_zero_le e2.1
    have hs : s < 4 := by omega
    have ht : t < 4 := by omega
    have cs := hC.2.1 s hs
    have ms := hM.2.1 s hs
    have ct := hC.2.1 t ht
    have mt := hM.2.1 t ht
    have hbs := hA.2.2 s hs
    have hbt := hA.2.2 t ht
    have b1 := hbs.1
    have b2 := hbs.2.1
    have b3 := hbt.1
    have b4 := hbt.2.1
    have hc : ∀ K : SS → Int32 → Prop, (qF (a.2.2.1 s) = -1 ∨ qF (a.2.2.1 t) = -1 → K (sI σ 0 8 (iz 1)) (iz (-11))) → (¬ (qF (a.2.2.1 s) = -1 ∨ qF (a.2.2.1 t) = -1) → ¬ qF (a.2.2.1 s) = qF (a.2.2.1 t) → K (sI σ 0 8 (iz 4)) (iz (-14))) → (¬ (qF (a.2.2.1 s) = -1 ∨ qF (a.2.2.1 t) = -1) → qF (a.2.2.1 s) = qF (a.2.2.1 t) → ¬ okC i j n (qN (a.2.2.1 s)) (qN (a.2.2.1 t)) → K (sI σ 0 8 (iz 2)) (iz (-12))) → (¬ (qF (a.2.2.1 s) = -1 ∨ qF (a.2.2.1 t) = -1) → qF (a.2.2.1 s) = qF (a.2.2.1 t) → okC i j n (qN (a.2.2.1 s)) (qN (a.2.2.1 t)) → ∀ σ', CI σ' (stA a t (cpS (a.2.2.1 s) (a.2.2.1 t) i.toNat j.toNat n.toNat)) → K σ' (iz 1)) → wp_X5_copy σ (iz s) (iz i) (iz t) (iz j) (iz n) K := by
      intro K k1 k2 k3 k4
      unfold wp_X5_copy
      simp only [ize]
      refine c_isSheet h1 (bz_d (fun _ => c_isSheet h3 (bz_c (fun _ => ?_) (fun q => ?_))) (fun q => ?_))
      · rw [iz_cl (show s < 2147483648 by omega), iz_cl (show t < 2147483648 by omega), cs.1, ct.1]
        refine ⟨iz_in (by omega), iz_in (by omega), bz_c (fun q => c_find (k1 (Or.inl (by simpa using q)))) (fun q => bz_d (fun q2 => c_find (k1 (Or.inr (by simpa using q2)))) (fun q2 => ?_))⟩
        simp only [decide_eq_false_iff_not] at q q2
        rw [(cs.2.1 q).1, (ct.2.1 q2).1]
        refine ceq (by omega) (fun e3 => ?_) (fun e3 => c_find (k2 (by omega) e3))
        refine c_hasItems (cs.2.1 q).2 b2 h2 h5 (bz_d (fun e4 => c_hasItems (ct.2.1 q2).2 b4 h4 h5 (bz_c (fun e5 => ?_) (fun e5 => c_find (k3 (by omega) e3 ?_)))) (fun e4 => c_find (k3 (by omega) e3 ?_)))
        · simp only [decide_eq_true_eq] at e4 e5
          have k4 := k4 (by omega) e3 (by unfold okC; omega)
          obtain ⟨i, rfl⟩ := Int.eq_ofNat_of_zero_le e4.1
          obtain ⟨j, rfl⟩ := Int.eq_ofNat_of_zero_le e5.1
          obtain ⟨n, rfl⟩ := Int.eq_ofNat_of_zero_le e5.2.1
          simp only [Int.toNat_natCast] at k4
          exact c_takeItems hA hC hs ht e3 q2 (by omega) (by omega) k4
        · simp only [decide_eq_true_eq, decide_eq_false_iff_not] at e4 e5
          unfold okC; omega
        · simp only [decide_eq_false_iff_not] at e4
          unfold okC; omega
      · simp only [decide_eq_false_iff_not] at q; omega
      · simp only [decide_eq_false_iff_not] at q; omega
    have hm : ∀ K : SS → Int32 → Prop, (qF (a.2.2.1 s) = -1 ∨ qF (a.2.2.1 t) = -1 → K (sI τ 100 27 (iz 1)) (iz (-11))) → (¬ (qF (a.2.2.1 s) = -1 ∨ qF (a.2.2.1 t) = -1) → ¬ qF (a.2.2.1 s) = qF (a.2.2.1 t) → K (sI τ 100 27 (iz 4)) (iz (-14))) → (¬ (qF (a.2.2.1 s) = -1 ∨ qF (a.2.2.1 t) = -1) → qF (a.2.2.1 s) = qF (a.2.2.1 t) → ¬ okC i j n (qN (a.2.2.1 s)) (qN (a.2.2.1 t)) → K (sI τ 100 27 (iz 2)) (iz (-12))) → (¬ (qF (a.2.2.1 s) = -1 ∨ qF (a.2.2.1 t) = -1) → qF (a.2.2.1 s) = qF (a.2.2.1 t) → okC i j n (qN (a.2.2.1 s)) (qN (a.2.2.1 t)) → ∀ τ', MI τ' (stA a t (cpS (a.2.2.1 s) (a.2.2.1 t) i.toNat j.toNat n.toNat)) → K τ' (iz 1)) → wp_X6_copy τ (iz s) (iz i) (iz t) (iz j) (iz n) K := by
      intro K k1 k2 k3 k4
      unfold wp_X6_copy
      simp only [ize]
      refine m_isSheet h1 (bz_d (fun _ => m_isSheet h3 (bz_c (fun _ => ?_) (fun q => ?_))) (fun q => ?_))
      · rw [iz_cl (show s < 2147483648 by omega), iz_cl (show t < 2147483648 by omega), ms.1, mt.1]
        refine ⟨iz_in (by omega), ceq (by omega) (fun q => m_meets (k1 (Or.inl q))) (fun q => ⟨iz_in (by omega), cne (by omega) (fun q2 => ⟨iz_in (by omega), iz_in (by omega), ceq (by omega) (fun e3 => ?_) (fun e3 => m_meets (k2 (by omega) e3))⟩) (fun q2 => m_meets (k1 (Or.inr q2)))⟩)⟩
        rw [ms.2.1 q, mt.2.1 q2, iz_l h2, iz_l h4, iz_l h5, iz_l (by omega), iz_l (by omega), lz_add, lz_add]
        refine clt (by omega) (fun e4 => m_meets (k3 (by omega) e3 (by unfold okC; omega))) (fun e4 => clt (by omega) (fun e5 => m_meets (k3 (by omega) e3 (by unfold okC; omega))) (fun e5 => clt (by omega) (fun e6 => m_meets (k3 (by omega) e3 (by unfold okC; omega))) (fun e6 => ⟨iz_in (by omega), ?_⟩)))
        rw [← ize.1, lg_cmp_gt, lg_cmp_le, lz_lt (by omega), lz_le (by omega)]
        refine ⟨fun e7 => m_meets (k3 (by omega) e3 (by unfold okC; omega)), fun e7 => ⟨iz_in (by omega), fun e8 => ?_, fun e8 => m_meets (k3 (by omega) e3 (by unfold okC; omega))⟩⟩
        have k4 := k4 (by omega) e3 (by unfold okC; omega)
        obtain ⟨i, rfl⟩ := Int.eq_ofNat_of_zero_le e4
        obtain ⟨j, rfl⟩ := Int.eq_ofNat_of_zero_le e5
        obtain ⟨n, rfl⟩ := Int.eq_ofNat_of_zero_le e6
        simp only [Int.toNat_natCast] at k4
        exact m_moves hA hM hs ht e3 q2 (by omega) (by omega) k4
      · simp only [decide_eq_false_iff_not] at q; omega
      · simp only [decide_eq_false_iff_not] at q; omega
    by_cases q1 : qF (a.2.2.1 s) = -1 ∨ qF (a.2.2.1 t) = -1
    · exact ⟨iz (-11), fnA a (iz 1), hA, hc _ (fun _ => ⟨CI_fn hA hC _, rfl⟩) (fun q => absurd q1 q) (fun q => absurd q1 q) (fun q => absurd q1 q), hm _ (fun _ => ⟨MI_fn hM _, rfl⟩) (fun q => absurd q1 q) (fun q => absurd q1 q) (fun q => absurd q1 q)⟩
    · by_cases q2 : qF (a.2.2.1 s) = qF (a.2.2.1 t)
      · by_cases q3 : okC i j n (qN (a.2.2.1 s)) (qN (a.2.2.1 t))
        · refine ⟨iz 1, _, AB_st hA (SB_cp hbs hbt q2 (i := i.toNat) (j := j.toNat) (n := n.toNat) ?_ ?_), hc _ (fun q => absurd q q1) (fun _ q => absurd q2 q) (fun _ _ q => absurd q3 q) (fun _ _ _ σ' h => ⟨h, rfl⟩), hm _ (fun q => absurd q q1) (fun _ q => absurd q2 q) (fun _ _ q => absurd q3 q) (fun _ _ _ σ' h => ⟨h, rfl⟩)⟩
          · unfold okC at q3; omega
          · unfold okC at q3; omega
        · exact ⟨iz (-12), fnA a (iz 2), hA, hc _ (fun q => absurd q q1) (fun _ q => absurd q2 q) (fun _ _ _ => ⟨CI_fn hA hC _, rfl⟩) (fun _ _ q => absurd q q3), hm _ (fun q => absurd q q1) (fun _ q => absurd q2 q) (fun _ _ _ => ⟨MI_fn hM _, rfl⟩) (fun _ _ q => absurd q q3)⟩
      · exact ⟨iz (-14), fnA a (iz 4), hA, hc _ (fun q => absurd q q1) (fun _ _ => ⟨CI_fn hA hC _, rfl⟩) (fun _ q => absurd q q2) (fun _ q => absurd q q2), hm _ (fun q => absurd q q1) (fun _ _ => ⟨MI_fn hM _, rfl⟩) (fun _ q => absurd q q2) (fun _ q => absurd q q2)⟩
  · refine ⟨iz (-2), a, hA, ?_, ?_⟩
    · unfold wp_X5_copy
      refine c_isSheet h1 (bz_d (fun e3 => c_isSheet h3 (bz_c (fun e4 => ?_) (fun _ => ⟨hC, rfl⟩))) (fun _ => ⟨hC, rfl⟩))
      simp only [decide_eq_true_eq] at e3 e4
      exact absurd ⟨e3, e4⟩ e1
    · unfold wp_X6_copy
      refine m_isSheet h1 (bz_d (fun e3 => m_isSheet h3 (bz_c (fun e4 => ?_) (fun _ => ⟨hM, rfl⟩))) (fun _ => ⟨hM, rfl⟩))
      simp only [decide_eq_true_eq] at e3 e4
      exact absurd ⟨e3, e4⟩ e1
