/-! ===== sheets: found, copy ===== -/
theorem m_foundL {τ : SS} {K : SS → Int32 → Prop} {s : Nat} {v : S1} {y : UInt64} {q : Int} (hs : s < 4) (hq : 0 ≤ q ∧ q ≤ 2) (h2 : gA τ 111 s = iz (qN v)) (hn : qN v ≤ 40) (hB : ∀ i, i < qN v → gA τ 114 (40 * s + i) = bz (qB v i) ∧ (qB v i = false → gD τ 113 (40 * s + i) = qD v i)) (h : K τ (iz (fb_ct (fdP v q y) (qN v)))) : ∃ n, fx6 (lb_X6_found_66 K) n τ (iz s) (iz q) (iz 0) y (iz ((40 * s : Nat) : Int)) := by
  refine fx6_i (fun τ1 x1 x2 x4 x5 x7 => τ1 = τ ∧ x1 = iz s ∧ x2 = iz q ∧ x5 = y ∧ ∃ k : Nat, k ≤ qN v ∧ x7 = iz ((40 * s + k : Nat) : Int) ∧ x4 = iz (fb_ct (fdP v q y) k)) (fun _ _ _ _ _ x7 => 300 - x7.toNatClampNeg) ?_ _ _ _ _ _ _ ⟨rfl, rfl, rfl, rfl, 0, Nat.zero_le _, rfl, rfl⟩
  rintro L τ1 x1 x2 x4 x5 x7 ⟨rfl, rfl, rfl, rfl, k, hk, rfl, rfl⟩ hL
  unfold lb_X6_found_66
  rw [iz_cl (show s < 2147483648 by omega), h2]
  simp only [ize]
  rw [iz_mul, iz_add]
  refine ⟨iz_in (by omega), cle (by omega) (fun e => ?_) (fun e => ?_)⟩
  · rw [show k = qN v by omega]; exact h
  · have hk2 := hB k (by omega)
    have yes : fdP v q x5 k = true → bl_X6_found_145 K L τ1 (iz s) (iz q) (iz (fb_ct (fdP v q x5) k)) x5 (iz ((40 * s + k : Nat) : Int)) (iz 1) := by
      intro e4
      unfold bl_X6_found_145
      simp only [ize]
      refine ⟨fun z => absurd z (by decide), fun _ => ?_⟩
      refine hL _ _ _ _ _ _ ⟨rfl, rfl, rfl, rfl, k + 1, by omega, iz_s (40 * s + k), ?_⟩ ?_
      · rw [fb_ct_succ, e4, iz_s]; rfl
      · rw [iz_s, iz_cl (by omega), iz_cl (by omega)]; omega
    have no : fdP v q x5 k = false → bl_X6_found_145 K L τ1 (iz s) (iz q) (iz (fb_ct (fdP v q x5) k)) x5 (iz ((40 * s + k : Nat) : Int)) (iz 0) := by
      intro e4
      unfold bl_X6_found_145
      simp only [ize]
      refine ⟨fun _ => ?_, fun z => absurd trivial z⟩
      refine hL _ _ _ _ _ _ ⟨rfl, rfl, rfl, rfl, k + 1, by omega, iz_s (40 * s + k), ?_⟩ ?_
      · rw [fb_ct_succ, e4, iz_add]; simp
      · rw [iz_s, iz_cl (by omega), iz_cl (by omega)]; omega
    rw [iz_cl (show 40 * s + k < 2147483648 by omega), hk2.1]
    refine cne (by omega) (fun e0 => ⟨iz_in (by omega), bz_c (fun e4 => no (by simp [fdP, e0, e4])) (fun e4 => ?_)⟩) (fun e0 => ⟨iz_in (by omega), ?_⟩)
    · rw [hk2.2 e4]
      refine cne (by omega) (fun e1 => ⟨iz_in (by omega), fun e5 => no ?_, fun e5 => yes ?_⟩) (fun e1 => ⟨iz_in (by omega), fun e5 => no ?_, fun e5 => yes ?_⟩)
      · simp only [fdP, e4, ltD, e0, e1]; simpa using e5
      · simp only [fdP, e4, ltD, e0, e1]; simpa using e5
      · simp only [fdP, e4, gtD, e0, e1]; simpa using e5
      · simp only [fdP, e4, gtD, e0, e1]; simpa using e5
    · cases e4 : qB v k with
      | true => exact yes (by simp [fdP, e0, e4])
      | false => exact no (by simp [fdP, e0, e4])
theorem p_found {σ τ : SS} {a : AT} (hA : AB a) (hC : CI σ a) (hM : MI τ a) (x y u : Int32) : prI (wp_X5_found σ x y u) (wp_X6_found τ x y u) := by
  have hx := i_rng x
  have hy := i_rng y
  rw [← iz_of x, ← iz_of y]
  generalize x.toInt = z at hx
  generalize y.toInt = q at hy
  by_cases e1 : (0 ≤ z ∧ z ≤ 3) ∧ 0 ≤ q ∧ q ≤ 2
  · obtain ⟨e1, e2⟩ := e1
    obtain ⟨s, rfl⟩ := Int.eq_ofNat_of_zero_le e1.1
    have hs : s < 4 := by omega
    have cs := hC.2.1 s hs
    have ms := hM.2.1 s hs
    have hb := hA.2.2 s hs
    have hb1 := hb.1
    have hb2 := hb.2.1
    have hc : ∀ K : SS → Int32 → Prop, (qF (a.2.2.1 s) = -1 → K (sI σ 0 8 (iz 1)) (iz (-11))) → (¬ qF (a.2.2.1 s) = -1 → ¬ qF (a.2.2.1 s) = 1 → K (sI σ 0 8 (iz 3)) (iz (-13))) → (qF (a.2.2.1 s) = 1 → K σ (iz (fb_ct (fdP (a.2.2.1 s) q (FP.ddiv (FP.i2d u) 4620693217682128896)) (qN (a.2.2.1 s))))) → wp_X5_found σ (iz s) (iz q) u K := by
      intro K h1 h2 h3
      unfold wp_X5_found
      simp only [ize]
      refine c_win hy (by omega) (bz_c (fun _ => ?_) (fun q => ?_))
      · refine c_refusal hA hC hx (by omega) (fun q => absurd e1 q) (fun _ q => ?_) (fun _ q q2 => ?_) (fun _ e3 => ?_)
        · simp only [Int.toNat_natCast] at q
          exact ⟨fun q => absurd q (by decide), fun _ => h1 q⟩
        · simp only [Int.toNat_natCast] at q q2
          exact ⟨fun q => absurd q (by decide), fun _ => h2 q q2⟩
        · simp only [Int.toNat_natCast] at e3
          have h3 := h3 e3
          have sz := (cs.2.1 (by omega)).2
          have it := cs.2.2.2 e3
          refine ⟨fun _ => ?_, fun q => absurd rfl q⟩
          rw [iz_cl (by omega)]
          refine ⟨?_, ?_, ?_⟩
          · rw [iz_eq (by omega)]; intro e4; subst e4
            exact ⟨iz_in (by omega), c_countNo sz hb2 it h3⟩
          · rw [iz_eq (by omega)]; intro e4; subst e4
            exact ⟨iz_in (by omega), n64_8 u, c_countAb sz hb2 it h3⟩
          · rw [iz_eq (by omega), iz_eq (by omega)]; intro e4 e5
            exact ⟨iz_in (by omega), n64_8 u, c_countBe ⟨e4, e5⟩ sz hb2 it h3⟩
      · simp only [decide_eq_false_iff_not] at q; omega
    have hm : ∀ K : SS → Int32 → Prop, (qF (a.2.2.1 s) = -1 → K (sI τ 100 27 (iz 1)) (iz (-11))) → (¬ qF (a.2.2.1 s) = -1 → ¬ qF (a.2.2.1 s) = 1 → K (sI τ 100 27 (iz 3)) (iz (-13))) → (qF (a.2.2.1 s) = 1 → K τ (iz (fb_ct (fdP (a.2.2.1 s) q (FP.ddiv (FP.i2d u) 4620693217682128896)) (qN (a.2.2.1 s))))) → wp_X6_found τ (iz s) (iz q) u K := by
      intro K h1 h2 h3
      unfold wp_X6_found
      simp only [ize]
      refine m_isSheet hx (bz_d (fun _ => m_in hy (by omega) (bz_c (fun _ => ?_) (fun q => ?_))) (fun q => ?_))
      · rw [iz_cl (by omega), ms.1]
        refine ⟨iz_in (by omega), ceq (by omega) (fun e3 => ⟨n64_8 u, ?_⟩) (fun e3 => ⟨iz_in (by omega), cne (by omega) (fun e4 => m_meets (h2 e4 e3)) (fun e4 => m_meets (h1 e4))⟩)⟩
        rw [iz_mul, show (40 : Int) * (s : Int) = ((40 * s : Nat) : Int) by omega]
        exact m_foundL hs e2 (ms.2.1 (by omega)) hb2 (ms.2.2.2 e3) (h3 e3)
      · simp only [decide_eq_false_iff_not] at q; omega
      · simp only [decide_eq_false_iff_not] at q; omega
    by_cases q1 : qF (a.2.2.1 s) = -1
    · exact ⟨iz (-11), fnA a (iz 1), hA, hc _ (fun _ => ⟨CI_fn hA hC _, rfl⟩) (fun q => absurd q1 q) (fun q => absurd q (by omega)), hm _ (fun _ => ⟨MI_fn hM _, rfl⟩) (fun q => absurd q1 q) (fun q => absurd q (by omega))⟩
    · by_cases q2 : qF (a.2.2.1 s) = 1
      · exact ⟨_, a, hA, hc _ (fun q => absurd q q1) (fun _ q => absurd q2 q) (fun _ => ⟨hC, rfl⟩), hm _ (fun q => absurd q q1) (fun _ q => absurd q2 q) (fun _ => ⟨hM, rfl⟩)⟩
      · exact ⟨iz (-13), fnA a (iz 3), hA, hc _ (fun q => absurd q q1) (fun _ _ => ⟨CI_fn hA hC _, rfl⟩) (fun q => absurd q q2), hm _ (fun q => absurd q q1) (fun _ _ => ⟨MI_fn hM _, rfl⟩) (fun q => absurd q q2)⟩
  · refine ⟨iz (-2), a, hA, ?_, ?_⟩
    · unfold wp_X5_found
      simp only [ize]
      refine c_win hy (by omega) (bz_c (fun e3 => ?_) (fun _ => ⟨hC, trivial⟩))
      simp only [decide_eq_true_eq] at e3
      exact c_refusal (f := 1) hA hC hx (by omega) (fun _ => ⟨fun q => absurd q (by decide), fun _ => ⟨hC, rfl⟩⟩) (fun q => absurd ⟨q, e3⟩ e1) (fun q => absurd ⟨q, e3⟩ e1) (fun q => absurd ⟨q, e3⟩ e1)
    · unfold wp_X6_found
      simp only [ize]
      refine m_isSheet hx (bz_d (fun e3 => m_in hy (by omega) (bz_c (fun e4 => ?_) (fun _ => ⟨hM, trivial⟩))) (fun _ => ⟨hM, trivial⟩))
      simp only [decide_eq_true_eq] at e3 e4
      exact absurd ⟨e3, e4⟩ e1
/-- items of v behind those of w from i on came to j .. j + n -/
def cpS (v w : S1) (i j n : Nat) : S1 := (qF w, qN w, fun k => if j ≤ k ∧ k < j + n then qL v (i + k - j) else qL w k, fun k => if j ≤ k ∧ k < j + n then qD v (i + k - j) else qD w k, fun k => if j ≤ k ∧ k < j + n then qB v (i + k - j) else qB w k)
theorem SB_cp {v w : S1} (hv : SB1 v) (hw : SB1 w) (hf : qF v = qF w) {i j n : Nat} (h1 : i + n ≤ qN v) (h2 : j + n ≤ qN w) : SB1 (cpS v w i j n) := by
  refine ⟨hw.1, hw.2.1, fun hq k hk hb => ?_⟩
  have hq : qF w = 1 := hq
  have hk : k < qN w := hk
  have hb : (if j ≤ k ∧ k < j + n then qB v (i + k - j) else qB w k) = false := hb
  show vf_n64 (if j ≤ k ∧ k < j + n then qD v (i + k - j) else qD w k)
  by_cases e : j ≤ k ∧ k < j + n
  · rw [if_pos e] at hb ⊢
    exact hv.2.2 (hf.trans hq) _ (by omega) hb
  · rw [if_neg e] at hb ⊢
    exact hw.2.2 hq _ hk hb
/-- which items are moved behind k steps -/
def dnC (i j n k q : Nat) : Prop := (¬ i < j ∧ j ≤ q ∧ q < j + k) ∨ (i < j ∧ j + n - k ≤ q ∧ q < j + n)
theorem c_takeItems {σ : SS} {a : AT} {K : SS → Prop} (hA : AB a) (hC : CI σ a) {s t i j n : Nat} (hs : s < 4) (ht : t < 4) (hF : qF (a.2.2.1 s) = qF (a.2.2.1 t)) (hl : ¬ qF (a.2.2.1 t) = -1) (h1 : i + n ≤ qN (a.2.2.1 s)) (h2 : j + n ≤ qN (a.2.2.1 t)) (h : ∀ σ', CI σ' (stA a t (cpS (a.2.2.1 s) (a.2.2.1 t) i j n)) → K σ') : wp_X3_takeItems σ (56 + 4 * t) (56 + 4 * s) (iz i) (iz j) (iz n) K := by
  have n1 := (hA.2.2 s hs).2.1
  have n2 := (hA.2.2 t ht).2.1
  have cs := hC.2.1 s hs
  have ct := hC.2.1 t ht
  unfold wp_X3_takeItems
  simp only [ize]
  refine fx5_i (fun σ1 x2 x3 x4 x5 => x2 = iz i ∧ x3 = iz j ∧ x4 = iz n ∧ oS t σ σ1 ∧ (∀ k, gI σ1 (56 + 4 * t) k = gI σ (56 + 4 * t) k) ∧ ∃ k : Nat, k ≤ n ∧ x5 = iz k ∧ ∀ q, (dnC i j n k q → gL σ1 (56 + 4 * t + 1) q = gL σ (56 + 4 * s + 1) (i + q - j) ∧ gD σ1 (56 + 4 * t + 2) q = gD σ (56 + 4 * s + 2) (i + q - j) ∧ gA σ1 (56 + 4 * t + 3) q = vp_nar .boolean (gA σ (56 + 4 * s + 3) (i + q - j))) ∧ (¬ dnC i j n k q → gL σ1 (56 + 4 * t + 1) q = gL σ (56 + 4 * t + 1) q ∧ gD σ1 (56 + 4 * t + 2) q = gD σ (56 + 4 * t + 2) q ∧ gA σ1 (56 + 4 * t + 3) q = gA σ (56 + 4 * t + 3) q)) (fun _ _ _ _ x5 => 50 - x5.toNatClampNeg) ?_ _ _ _ _ _ ⟨rfl, rfl, rfl, oS_r t σ, fun _ => rfl, 0, Nat.zero_le _, rfl, fun q => ⟨fun hd => by unfold dnC at hd; omega, fun _ => ⟨rfl, rfl, rfl⟩⟩⟩
  rintro L σ1 x2 x3 x4 x5 ⟨rfl, rfl, rfl, ho, hI, k, hk, rfl, hj⟩ hL
  have go : ∀ m : Nat, k < n → m < n → (¬ i < j → m = k) → (i < j → m + k + 1 = n) → bl_X3_takeItems_27 K L (56 + 4 * t) (56 + 4 * s) σ1 (iz i) (iz j) (iz n) (iz k) (iz m) := by
    intro m hkn hm m1 m2
    have src : gL σ1 (56 + 4 * s + 1) (i + m) = gL σ (56 + 4 * s + 1) (i + m) ∧ gD σ1 (56 + 4 * s + 2) (i + m) = gD σ (56 + 4 * s + 2) (i + m) ∧ gA σ1 (56 + 4 * s + 3) (i + m) = gA σ (56 + 4 * s + 3) (i + m) := by
      by_cases e : s = t
      · subst e
        exact (hj (i + m)).2 (by unfold dnC; omega)
      · exact ⟨by rw [(ho _ (by omega)).2.2.1], by rw [(ho _ (by omega)).2.2.2], by rw [(ho _ (by omega)).2.1]⟩
    unfold bl_X3_takeItems_27
    rw [iz_add, iz_add, show (i : Int) + (m : Int) = ((i + m : Nat) : Int) by omega, show (j : Int) + (m : Int) = ((j + m : Nat) : Int) by omega, iz_cl (show i + m < 2147483648 by omega), iz_cl (show j + m < 2147483648 by omega), src.1, src.2.1, src.2.2]
    refine ⟨iz_in (by omega), iz_in (by omega), iz_in (by omega), iz_in (by omega), iz_in (by omega), iz_in (by omega), ?_⟩
    refine hL _ _ _ _ _ ⟨rfl, rfl, rfl, oS_t ho (oS_t (oS_t (oS_L (by omega)) (oS_D (by omega))) (oS_A (by omega))), hI, k + 1, by omega, iz_s k, fun q => ?_⟩ ?_
    · rw [gL_sA, gL_sD, gL_sL_s, gD_sA, gD_sD_s, gA_sA_s]
      by_cases e : q = j + m
      · subst e
        rw [upL_s, upD_s, upd_s, show i + (j + m) - j = i + m by omega]
        exact ⟨fun _ => ⟨rfl, rfl, rfl⟩, fun z => absurd (show dnC i j n (k + 1) (j + m) by unfold dnC; omega) z⟩
      · rw [upL_n _ _ e, upD_n _ _ e, upd_n _ _ e]
        exact ⟨fun z => (hj q).1 (by unfold dnC at z ⊢; omega), fun z => (hj q).2 (by unfold dnC at z ⊢; omega)⟩
    · rw [ize.2.1, iz_s, iz_cl (by omega), iz_cl (by omega)]; omega
  unfold lb_X3_takeItems_3
  simp only [ize]
  refine cle (by omega) (fun e => ?_) (fun e => ?_)
  · have e3 : k = n := by omega
    subst e3
    have dn : ∀ q, dnC i j k k q ↔ (j ≤ q ∧ q < j + k) := fun q => by unfold dnC; omega
    refine h _ (CI_oS hA ho hC ⟨by rw [hI]; exact ct.1, fun z => by rw [hI, hI]; exact ct.2.1 z, fun z q hq => ?_, fun z q hq => ?_⟩)
    · have z : qF (a.2.2.1 t) = 0 := z
      have hq : q < qN (a.2.2.1 t) := hq
      show _ = (if j ≤ q ∧ q < j + k then qL (a.2.2.1 s) (i + q - j) else qL (a.2.2.1 t) q)
      by_cases e : j ≤ q ∧ q < j + k
      · rw [if_pos e, ((hj q).1 ((dn q).mpr e)).1]; exact cs.2.2.1 (hF.trans z) _ (by omega)
      · rw [if_neg e, ((hj q).2 (fun w => e ((dn q).mp w))).1]; exact ct.2.2.1 z _ hq
    · have z : qF (a.2.2.1 t) = 1 := z
      have hq : q < qN (a.2.2.1 t) := hq
      show _ = bz (if j ≤ q ∧ q < j + k then qB (a.2.2.1 s) (i + q - j) else qB (a.2.2.1 t) q) ∧ ((if j ≤ q ∧ q < j + k then qB (a.2.2.1 s) (i + q - j) else qB (a.2.2.1 t) q) = false → _ = (if j ≤ q ∧ q < j + k then qD (a.2.2.1 s) (i + q - j) else qD (a.2.2.1 t) q))
      by_cases e : j ≤ q ∧ q < j + k
      · have g := (hj q).1 ((dn q).mpr e)
        have c := cs.2.2.2 (hF.trans z) (i + q - j) (by omega)
        rw [if_pos e, if_pos e, g.2.2, g.2.1, c.1, nar_z]; exact ⟨rfl, c.2⟩
      · have g := (hj q).2 (fun w => e ((dn q).mp w))
        rw [if_neg e, if_neg e, g.2.2, g.2.1]; exact ct.2.2.2 z _ hq
  · refine clt (by omega) (fun e2 => ?_) (fun e2 => go k (by omega) (by omega) (fun _ => rfl) (fun z => by omega))
    rw [iz_sub, iz_sub, show (n : Int) - 1 - (k : Int) = ((n - 1 - k : Nat) : Int) by omega]
    exact go (n - 1 - k) (by omega) (by omega) (fun z => by omega) (fun _ => by omega)
