/-! ===== sheets: put, get, found ===== -/
theorem c_hasItems {σ : SS} {K : SS → Int32 → Prop} {p n : Nat} {i m : Int} (h2 : gI σ p 2 = iz n) (hn : n ≤ 40) (hi : -2147483648 ≤ i ∧ i < 2147483648) (hm : -2147483648 ≤ m ∧ m < 2147483648) (h : K σ (bz (decide (0 ≤ i ∧ 0 ≤ m ∧ i + m ≤ n)))) : wp_X3_hasItems σ p (iz i) (iz m) K := by
  unfold wp_X3_hasItems
  rw [h2]
  simp only [ize]
  refine clt (by omega) (fun e => ?_) (fun e => clt (by omega) (fun e2 => ?_) (fun e2 => clt (by omega) (fun e3 => ?_) (fun e3 => ?_)))
  · rw [show decide (0 ≤ i ∧ 0 ≤ m ∧ i + m ≤ (n : Int)) = false by simp; omega] at h; exact h
  · rw [show decide (0 ≤ i ∧ 0 ≤ m ∧ i + m ≤ (n : Int)) = false by simp; omega] at h; exact h
  · rw [show decide (0 ≤ i ∧ 0 ≤ m ∧ i + m ≤ (n : Int)) = false by simp; omega] at h; exact h
  · rw [iz_sub]
    refine clt (by omega) (fun e4 => ?_) (fun e4 => ?_)
    · rw [show decide (0 ≤ i ∧ 0 ≤ m ∧ i + m ≤ (n : Int)) = false by simp; omega] at h; exact h
    · rw [show decide (0 ≤ i ∧ 0 ≤ m ∧ i + m ≤ (n : Int)) = true by simp; omega] at h; exact h
theorem m_hasItem {τ : SS} {K : SS → Int32 → Prop} {s n : Nat} {i : Int} (hs : s < 4) (h2 : gA τ 111 s = iz n) (hn : n ≤ 40) (hi : -2147483648 ≤ i ∧ i < 2147483648) (h : K τ (bz (decide (0 ≤ i ∧ i < n)))) : wp_X6_hasItem τ (iz s) (iz i) K := by
  unfold wp_X6_hasItem
  rw [iz_cl (by omega), h2]
  simp only [ize, iz_sub]
  refine ⟨iz_in (by omega), m_in hi (by omega) ⟨bz_or _, ?_⟩⟩
  rw [show decide (0 ≤ i ∧ i ≤ (n : Int) - 1) = decide (0 ≤ i ∧ i < (n : Int)) by congr 1; apply propext; omega]
  exact h
theorem nw_cel {s i : Nat} : iz 40 * iz (s : Int) + iz (i : Int) = iz ((40 * s + i : Nat) : Int) := by
  rw [iz_mul, iz_add]; congr 1
def ptS (v : S1) (i : Nat) (u : Int32) : S1 := (qF v, qN v, fun k => if k = i then u.toInt64 else qL v k, fun k => if k = i then FP.ddiv (FP.i2d u) 4620693217682128896 else qD v k, fun k => if k = i then false else qB v k)
theorem SB_pt {v : S1} (h : SB1 v) (i : Nat) (u : Int32) : SB1 (ptS v i u) := by
  refine ⟨h.1, h.2.1, fun hf k hk hb => ?_⟩
  show vf_n64 (if k = i then FP.ddiv (FP.i2d u) 4620693217682128896 else qD v k)
  by_cases e : k = i
  · rw [if_pos e]; exact n64_8 u
  · rw [if_neg e]
    refine h.2.2 hf k hk ?_
    have hb : (if k = i then false else qB v k) = false := hb
    rw [if_neg e] at hb; exact hb
theorem p_put {σ τ : SS} {a : AT} (hA : AB a) (hC : CI σ a) (hM : MI τ a) (x y t u : Int32) : prI (wp_X5_put σ x y t u) (wp_X6_put τ x y t u) := by
  have hx := i_rng x
  have hy := i_rng y
  have ht := i_rng t
  rw [← iz_of x, ← iz_of y, ← iz_of t]
  generalize x.toInt = z at hx
  generalize y.toInt = f at hy
  generalize t.toInt = i at ht
  by_cases e1 : (0 ≤ z ∧ z ≤ 3) ∧ 0 ≤ f ∧ f ≤ 1
  · obtain ⟨e1, e2⟩ := e1
    obtain ⟨s, rfl⟩ := Int.eq_ofNat_of_zero_le e1.1
    have hs : s < 4 := by omega
    have cs := hC.2.1 s hs
    have ms := hM.2.1 s hs
    have hb := hA.2.2 s hs
    have hb1 := hb.1
    have hb2 := hb.2.1
    have hc : ∀ K : SS → Int32 → Prop, (qF (a.2.2.1 s) = -1 → K (sI σ 0 8 (iz 1)) (iz (-11))) → (¬ qF (a.2.2.1 s) = -1 → ¬ qF (a.2.2.1 s) = f → K (sI σ 0 8 (iz 3)) (iz (-13))) → (qF (a.2.2.1 s) = f → ¬ (0 ≤ i ∧ i < qN (a.2.2.1 s)) → K (sI σ 0 8 (iz 2)) (iz (-12))) → (qF (a.2.2.1 s) = f → 0 ≤ i ∧ i < qN (a.2.2.1 s) → ∀ σ', CI σ' (stA a s (ptS (a.2.2.1 s) i.toNat u)) → K σ' (iz 1)) → wp_X5_put σ (iz s) (iz f) (iz i) u K := by
      intro K h1 h2 h3 h4
      unfold wp_X5_put
      simp only [ize]
      refine c_win hy (by omega) (bz_c (fun _ => ?_) (fun q => ?_))
      · refine c_refusal hA hC hx e2 (fun q => absurd e1 q) (fun _ q => ?_) (fun _ q q2 => ?_) (fun _ q => ?_)
        · simp only [Int.toNat_natCast] at q
          exact cne (a := -11) (b := 0) (by omega) (fun _ => h1 q) (fun q => absurd q (by omega)) |> fun w => ⟨w.2, w.1⟩
        · simp only [Int.toNat_natCast] at q q2
          exact cne (a := -13) (b := 0) (by omega) (fun _ => h2 q q2) (fun q => absurd q (by omega)) |> fun w => ⟨w.2, w.1⟩
        · simp only [Int.toNat_natCast] at q
          refine ⟨fun _ => ⟨iz_in (by omega), ?_⟩, fun q => absurd rfl q⟩
          rw [iz_cl (by omega)]
          refine c_hasItems (cs.2.1 (by omega)).2 hb2 ht (by omega) (bz_c (fun e3 => ?_) (fun e3 => c_find (h3 q ?_)))
          · simp only [decide_eq_true_eq] at e3
            obtain ⟨k, rfl⟩ := Int.eq_ofNat_of_zero_le e3.1
            simp only [Int.toNat_natCast] at h4
            have h4 := h4 q (by omega)
            rw [iz_cl (show k < 2147483648 by omega)]
            refine cne (by omega) (fun e4 => ⟨iz_in (by omega), n64_8 u, ?_⟩) (fun e4 => ⟨iz_in (by omega), iz_in (by omega), ?_⟩)
            · unfold wp_X3_putNumber
              rw [iz_cl (show k < 2147483648 by omega)]
              refine ⟨iz_in (by omega), iz_in (by omega), h4 _ (CI_oS hA (oS_t (oS_D (by omega)) (oS_A (by omega))) hC ⟨cs.1, cs.2.1, fun q2 => ?_, fun q2 j hj => ?_⟩)⟩
              · exact absurd (show qF (a.2.2.1 s) = 0 from q2) (by omega)
              · have := cs.2.2.2 q2 j hj
                show _ = bz (if j = k then false else qB (a.2.2.1 s) j) ∧ ((if j = k then false else qB (a.2.2.1 s) j) = false → _ = (if j = k then FP.ddiv (FP.i2d u) 4620693217682128896 else qD (a.2.2.1 s) j))
                by_cases e5 : j = k
                · subst e5
                  rw [if_pos rfl, if_pos rfl, gA_sA_s, upd_s, gD_sA, gD_sD_s, upD_s]
                  exact ⟨rfl, fun _ => rfl⟩
                · rw [if_neg e5, if_neg e5, gA_sA_s, upd_n _ _ e5, gD_sA, gD_sD_s, upD_n _ _ e5]
                  exact this
            · refine h4 _ (CI_oS hA (oS_L (by omega)) hC ⟨cs.1, cs.2.1, fun q2 j hj => ?_, fun q2 => absurd (show qF (a.2.2.1 s) = 1 from q2) (by omega)⟩)
              have := cs.2.2.1 q2 j hj
              show _ = (if j = k then u.toInt64 else qL (a.2.2.1 s) j)
              by_cases e5 : j = k
              · subst e5; rw [if_pos rfl, gL_sL_s, upL_s]
              · rw [if_neg e5, gL_sL_s, upL_n _ _ e5]; exact this
          · simp only [decide_eq_false_iff_not] at e3; omega
      · simp only [decide_eq_false_iff_not] at q; omega
    have hm : ∀ K : SS → Int32 → Prop, (qF (a.2.2.1 s) = -1 → K (sI τ 100 27 (iz 1)) (iz (-11))) → (¬ qF (a.2.2.1 s) = -1 → ¬ qF (a.2.2.1 s) = f → K (sI τ 100 27 (iz 3)) (iz (-13))) → (qF (a.2.2.1 s) = f → ¬ (0 ≤ i ∧ i < qN (a.2.2.1 s)) → K (sI τ 100 27 (iz 2)) (iz (-12))) → (qF (a.2.2.1 s) = f → 0 ≤ i ∧ i < qN (a.2.2.1 s) → ∀ τ', MI τ' (stA a s (ptS (a.2.2.1 s) i.toNat u)) → K τ' (iz 1)) → wp_X6_put τ (iz s) (iz f) (iz i) u K := by
      intro K h1 h2 h3 h4
      have no : ∀ n : Int, 1 ≤ n ∧ n ≤ 5 → K (sI τ 100 27 (iz n)) (iz (-10 - n)) → bl_X6_put_61 K τ (iz s) (iz i) u (iz n) := by
        intro n hn hk
        unfold bl_X6_put_61
        simp only [ize]
        exact cle (by omega) (fun q => absurd q (by omega)) (fun _ => m_meets hk)
      unfold wp_X6_put
      simp only [ize]
      refine m_isSheet hx (bz_d (fun _ => m_in hy (by omega) (bz_c (fun _ => ?_) (fun q => ?_))) (fun q => ?_))
      · rw [iz_cl (by omega), ms.1]
        refine ⟨iz_in (by omega), cne (by omega) (fun q => ⟨iz_in (by omega), ceq (by omega) (fun q2 => ?_) (fun q2 => no 3 (by omega) (h2 q q2))⟩) (fun q => no 1 (by omega) (h1 q))⟩
        refine m_hasItem hs (ms.2.1 q) hb2 ht (bz_d (fun e3 => ?_) (fun e3 => no 2 (by omega) (h3 q2 (by simpa using e3))))
        simp only [decide_eq_true_eq] at e3
        have h4 := h4 q2 e3
        obtain ⟨k, rfl⟩ := Int.eq_ofNat_of_zero_le e3.1
        simp only [Int.toNat_natCast] at h4
        unfold bl_X6_put_61
        simp only [ize]
        rw [nw_cel, iz_cl (show 40 * s + k < 2147483648 by omega)]
        refine cle (by omega) (fun _ => ⟨iz_in (by omega), n64_8 u, iz_in (by omega), iz_in (by omega), ?_⟩) (fun q => absurd q (by omega))
        refine h4 _ (MI_oM hA (oM_t (oM_t (oM_L (by omega)) (oM_D (by omega))) (oM_B (by omega))) hM ⟨?_, fun q3 => ?_, fun q3 j hj => ?_, fun q3 j hj => ?_⟩)
        · rw [gA_sA_p _ _ _ _ (by decide)]; exact ms.1
        · rw [gA_sA_p _ _ _ _ (by decide)]; exact ms.2.1 q3
        · have := ms.2.2.1 q3 j hj
          show _ = (if j = k then u.toInt64 else qL (a.2.2.1 s) j)
          rw [gL_sA, gL_sD, gL_sL_s]
          by_cases e5 : j = k
          · subst e5; rw [if_pos rfl, upL_s]
          · rw [if_neg e5, upL_n _ _ (by omega)]; exact this
        · have := ms.2.2.2 q3 j hj
          show _ = bz (if j = k then false else qB (a.2.2.1 s) j) ∧ ((if j = k then false else qB (a.2.2.1 s) j) = false → _ = (if j = k then FP.ddiv (FP.i2d u) 4620693217682128896 else qD (a.2.2.1 s) j))
          rw [gA_sA_s, gD_sA, gD_sD_s]
          by_cases e5 : j = k
          · subst e5
            rw [if_pos rfl, if_pos rfl, upd_s, upD_s]
            exact ⟨rfl, fun _ => rfl⟩
          · rw [if_neg e5, if_neg e5, upd_n _ _ (by omega), upD_n _ _ (by omega)]
            exact this
      · simp only [decide_eq_false_iff_not] at q; omega
      · simp only [decide_eq_false_iff_not] at q; omega
    by_cases q1 : qF (a.2.2.1 s) = -1
    · exact ⟨iz (-11), fnA a (iz 1), hA, hc _ (fun _ => ⟨CI_fn hA hC _, rfl⟩) (fun q => absurd q1 q) (fun q => absurd q (by omega)) (fun q => absurd q (by omega)), hm _ (fun _ => ⟨MI_fn hM _, rfl⟩) (fun q => absurd q1 q) (fun q => absurd q (by omega)) (fun q => absurd q (by omega))⟩
    · by_cases q2 : qF (a.2.2.1 s) = f
      · by_cases q3 : 0 ≤ i ∧ i < qN (a.2.2.1 s)
        · exact ⟨iz 1, stA a s (ptS (a.2.2.1 s) i.toNat u), AB_st hA (SB_pt hb _ _), hc _ (fun q => absurd q q1) (fun _ q => absurd q2 q) (fun _ q => absurd q3 q) (fun _ _ σ' h => ⟨h, rfl⟩), hm _ (fun q => absurd q q1) (fun _ q => absurd q2 q) (fun _ q => absurd q3 q) (fun _ _ σ' h => ⟨h, rfl⟩)⟩
        · exact ⟨iz (-12), fnA a (iz 2), hA, hc _ (fun q => absurd q q1) (fun _ q => absurd q2 q) (fun _ _ => ⟨CI_fn hA hC _, rfl⟩) (fun _ q => absurd q q3), hm _ (fun q => absurd q q1) (fun _ q => absurd q2 q) (fun _ _ => ⟨MI_fn hM _, rfl⟩) (fun _ q => absurd q q3)⟩
      · exact ⟨iz (-13), fnA a (iz 3), hA, hc _ (fun q => absurd q q1) (fun _ _ => ⟨CI_fn hA hC _, rfl⟩) (fun q => absurd q q2) (fun q => absurd q q2), hm _ (fun q => absurd q q1) (fun _ _ => ⟨MI_fn hM _, rfl⟩) (fun q => absurd q q2) (fun q => absurd q q2)⟩
  · refine ⟨iz (-2), a, hA, ?_, ?_⟩
    · unfold wp_X5_put
      simp only [ize]
      refine c_win hy (by omega) (bz_c (fun e3 => ?_) (fun _ => ⟨hC, trivial⟩))
      simp only [decide_eq_true_eq] at e3
      exact c_refusal hA hC hx e3 (fun _ => ⟨fun q => absurd q (by decide), fun _ => ⟨hC, rfl⟩⟩) (fun q => absurd ⟨q, e3⟩ e1) (fun q => absurd ⟨q, e3⟩ e1) (fun q => absurd ⟨q, e3⟩ e1)
    · unfold wp_X6_put
      simp only [ize]
      refine m_isSheet hx (bz_d (fun e3 => m_in hy (by omega) (bz_c (fun e4 => ?_) (fun _ => ⟨hM, trivial⟩))) (fun _ => ⟨hM, trivial⟩))
      simp only [decide_eq_true_eq] at e3 e4
      exact absurd ⟨e3, e4⟩ e1
/-- an item, as it is told -/
def itV (v : S1) (i : Nat) : Int64 := if qF v = 0 then qL v i else if qB v i then noL (-1) else FP.d2l (FP.dmul 4620693217682128896 (qD v i))
theorem p_get {σ τ : SS} {a : AT} (hA : AB a) (hC : CI σ a) (hM : MI τ a) (x t : Int32) : prL (wp_X5_get σ x t) (wp_X6_get τ x t) := by
  have hx := i_rng x
  have ht := i_rng t
  rw [← iz_of x, ← iz_of t]
  generalize x.toInt = z at hx
  generalize t.toInt = i at ht
  by_cases e1 : 0 ≤ z ∧ z ≤ 3
  · obtain ⟨s, rfl⟩ := Int.eq_ofNat_of_zero_le e1.1
    have hs : s < 4 := by omega
    have cs := hC.2.1 s hs
    have ms := hM.2.1 s hs
    have hb := hA.2.2 s hs
    have hb1 := hb.1
    have hb2 := hb.2.1
    have hc : ∀ K : SS → Int64 → Prop, (qF (a.2.2.1 s) = -1 → K (sI σ 0 8 (iz 1)) (noL (-11))) → (¬ qF (a.2.2.1 s) = -1 → ¬ (0 ≤ i ∧ i < qN (a.2.2.1 s)) → K (sI σ 0 8 (iz 2)) (noL (-12))) → (¬ qF (a.2.2.1 s) = -1 → 0 ≤ i ∧ i < qN (a.2.2.1 s) → K σ (itV (a.2.2.1 s) i.toNat)) → wp_X5_get σ (iz s) (iz i) K := by
      intro K h1 h2 h3
      unfold wp_X5_get
      simp only [ize]
      refine c_isSheet hx (bz_c (fun _ => ?_) (fun q => ?_))
      · rw [iz_cl (by omega), cs.1]
        refine ⟨iz_in (by omega), bz_d (fun q => c_find (c_asLong (h1 (by simpa using q)))) (fun q => ?_)⟩
        simp only [decide_eq_false_iff_not] at q
        refine c_hasItems (cs.2.1 q).2 hb2 ht (by omega) (bz_c (fun e3 => ?_) (fun e3 => c_find (c_asLong (h2 q ?_))))
        · simp only [decide_eq_true_eq] at e3
          have h3 := h3 q (by omega)
          obtain ⟨k, rfl⟩ := Int.eq_ofNat_of_zero_le e3.1
          simp only [Int.toNat_natCast] at h3
          rw [iz_cl (show k < 2147483648 by omega), (cs.2.1 q).1]
          refine cne (by omega) (fun e4 => ⟨iz_in (by omega), ?_⟩) (fun e4 => ⟨iz_in (by omega), ?_⟩)
          · have := cs.2.2.2 (by omega) k (by omega)
            rw [this.1]
            refine bz_d (fun e5 => c_asLong ?_) (fun e5 => ⟨iz_in (by omega), ?_⟩)
            · rw [itV, if_neg e4, if_pos e5] at h3; exact h3
            · rw [itV, if_neg e4, if_neg (by rw [e5]; decide)] at h3
              rw [this.2 e5]
              exact ⟨n64_m (hb.2.2 (by omega) k (by omega) e5), h3⟩
          · rw [cs.2.2.1 e4 k (by omega)]
            rw [itV, if_pos e4] at h3; exact h3
        · simp only [decide_eq_false_iff_not] at e3; omega
      · simp only [decide_eq_false_iff_not] at q; omega
    have hm : ∀ K : SS → Int64 → Prop, (qF (a.2.2.1 s) = -1 → K (sI τ 100 27 (iz 1)) (noL (-11))) → (¬ qF (a.2.2.1 s) = -1 → ¬ (0 ≤ i ∧ i < qN (a.2.2.1 s)) → K (sI τ 100 27 (iz 2)) (noL (-12))) → (¬ qF (a.2.2.1 s) = -1 → 0 ≤ i ∧ i < qN (a.2.2.1 s) → K τ (itV (a.2.2.1 s) i.toNat)) → wp_X6_get τ (iz s) (iz i) K := by
      intro K h1 h2 h3
      have no : ∀ n : Int, 1 ≤ n ∧ n ≤ 5 → K (sI τ 100 27 (iz n)) (noL (-10 - n)) → bl_X6_get_41 K τ (iz s) (iz i) (iz n) := by
        intro n hn hk
        unfold bl_X6_get_41
        simp only [ize]
        exact cle (by omega) (fun q => absurd q (by omega)) (fun _ => m_meets (m_no hk))
      unfold wp_X6_get
      simp only [ize]
      refine m_isSheet hx (bz_c (fun _ => ?_) (fun q => ?_))
      · rw [iz_cl (by omega), ms.1]
        refine ⟨iz_in (by omega), cne (by omega) (fun q => ?_) (fun q => no 1 (by omega) (h1 q))⟩
        refine m_hasItem hs (ms.2.1 q) hb2 ht (bz_d (fun e3 => ?_) (fun e3 => no 2 (by omega) (h2 q (by simpa using e3))))
        simp only [decide_eq_true_eq] at e3
        have h3 := h3 q e3
        obtain ⟨k, rfl⟩ := Int.eq_ofNat_of_zero_le e3.1
        simp only [Int.toNat_natCast] at h3
        unfold bl_X6_get_41 wp_X6_itemOf
        simp only [ize]
        rw [nw_cel, iz_cl (show 40 * s + k < 2147483648 by omega), iz_cl (show s < 2147483648 by omega), ms.1]
        refine cle (by omega) (fun _ => ⟨iz_in (by omega), cne (by omega) (fun e4 => ⟨iz_in (by omega), ?_⟩) (fun e4 => ⟨iz_in (by omega), ?_⟩)⟩) (fun q => absurd q (by omega))
        · have := ms.2.2.2 (by omega) k (by omega)
          rw [this.1]
          refine bz_d (fun e5 => m_no ?_) (fun e5 => ⟨iz_in (by omega), ?_⟩)
          · rw [itV, if_neg e4, if_pos e5] at h3; exact h3
          · rw [itV, if_neg e4, if_neg (by rw [e5]; decide)] at h3
            rw [this.2 e5]
            exact ⟨n64_m (hb.2.2 (by omega) k (by omega) e5), h3⟩
        · rw [ms.2.2.1 e4 k (by omega)]
          rw [itV, if_pos e4] at h3; exact h3
      · simp only [decide_eq_false_iff_not] at q; omega
    by_cases q1 : qF (a.2.2.1 s) = -1
    · exact ⟨noL (-11), fnA a (iz 1), hA, hc _ (fun _ => ⟨CI_fn hA hC _, rfl⟩) (fun q => absurd q1 q) (fun q => absurd q1 q), hm _ (fun _ => ⟨MI_fn hM _, rfl⟩) (fun q => absurd q1 q) (fun q => absurd q1 q)⟩
    · by_cases q3 : 0 ≤ i ∧ i < qN (a.2.2.1 s)
      · exact ⟨itV (a.2.2.1 s) i.toNat, a, hA, hc _ (fun q => absurd q q1) (fun _ q => absurd q3 q) (fun _ _ => ⟨hC, rfl⟩), hm _ (fun q => absurd q q1) (fun _ q => absurd q3 q) (fun _ _ => ⟨hM, rfl⟩)⟩
      · exact ⟨noL (-12), fnA a (iz 2), hA, hc _ (fun q => absurd q q1) (fun _ _ => ⟨CI_fn hA hC _, rfl⟩) (fun _ q => absurd q q3), hm _ (fun q => absurd q q1) (fun _ _ => ⟨MI_fn hM _, rfl⟩) (fun _ q => absurd q q3)⟩
  · refine ⟨noL (-2), a, hA, ?_, ?_⟩
    · unfold wp_X5_get
      simp only [ize]
      refine c_isSheet hx (bz_c (fun e3 => ?_) (fun _ => c_asLong ⟨hC, rfl⟩))
      simp only [decide_eq_true_eq] at e3; omega
    · unfold wp_X6_get
      simp only [ize]
      refine m_isSheet hx (bz_c (fun e3 => ?_) (fun _ => m_no ⟨hM, rfl⟩))
      simp only [decide_eq_true_eq] at e3; omega
def gtD (d y : UInt64) : Bool := decide (¬ Op.cmpValue (FP.dcmp d y) CmpOp.l ≤ iz 0)
def ltD (d y : UInt64) : Bool := decide (¬ iz 0 ≤ Op.cmpValue (FP.dcmp d y) CmpOp.g)
def fdP (v : S1) (q : Int) (y : UInt64) (i : Nat) : Bool := if q = 0 then qB v i else !qB v i && (if q = 1 then gtD (qD v i) y else ltD (qD v i) y)
theorem c_countNo {σ : SS} {K : SS → Int32 → Prop} {p : Nat} {v : S1} {y : UInt64} (h2 : gI σ p 2 = iz (qN v)) (hn : qN v ≤ 40) (hB : ∀ i, i < qN v → gA σ (p + 3) i = bz (qB v i) ∧ (qB v i = false → gD σ (p + 2) i = qD v i)) (h : K σ (iz (fb_ct (fdP v 0 y) (qN v)))) : wp_X3_countNoNumbers σ p K := by
  unfold wp_X3_countNoNumbers
  simp only [ize]
  refine fx3_i (fun σ1 x1 x2 => σ1 = σ ∧ ∃ k : Nat, k ≤ qN v ∧ x2 = iz k ∧ x1 = iz (fb_ct (fdP v 0 y) k)) (fun _ _ x2 => 50 - x2.toNatClampNeg) ?_ _ _ _ ⟨rfl, 0, Nat.zero_le _, rfl, rfl⟩
  rintro L σ1 x1 x2 ⟨rfl, k, hk, rfl, rfl⟩ hL
  unfold lb_X3_countNoNumbers_4
  rw [h2]
  simp only [ize]
  refine cle (by omega) (fun e => ?_) (fun e => ?_)
  · rw [show k = qN v by omega]; exact h
  · have hmu : 50 - (iz (k : Int) + iz 1).toNatClampNeg < 50 - (iz (k : Int)).toNatClampNeg := by
      rw [iz_s, iz_cl (by omega), iz_cl (by omega)]; omega
    rw [iz_cl (by omega), (hB k (by omega)).1]
    refine ⟨iz_in (by omega), bz_d (fun e4 => ?_) (fun e4 => ?_)⟩
    · refine hL _ _ _ ⟨rfl, k + 1, by omega, iz_s k, ?_⟩ hmu
      rw [fb_ct_succ, show fdP v 0 y k = true by simp [fdP, e4], iz_s]; rfl
    · refine hL _ _ _ ⟨rfl, k + 1, by omega, iz_s k, ?_⟩ hmu
      rw [fb_ct_succ, show fdP v 0 y k = false by simp [fdP, e4]]; simp
theorem c_countAb {σ : SS} {K : SS → Int32 → Prop} {p : Nat} {v : S1} {y : UInt64} (h2 : gI σ p 2 = iz (qN v)) (hn : qN v ≤ 40) (hB : ∀ i, i < qN v → gA σ (p + 3) i = bz (qB v i) ∧ (qB v i = false → gD σ (p + 2) i = qD v i)) (h : K σ (iz (fb_ct (fdP v 1 y) (qN v)))) : wp_X3_countAbove σ p y K := by
  unfold wp_X3_countAbove
  simp only [ize]
  refine fx4_i (fun σ1 x1 x3 x4 => σ1 = σ ∧ x1 = y ∧ ∃ k : Nat, k ≤ qN v ∧ x4 = iz k ∧ x3 = iz (fb_ct (fdP v 1 y) k)) (fun _ _ _ x4 => 50 - x4.toNatClampNeg) ?_ _ _ _ _ ⟨rfl, rfl, 0, Nat.zero_le _, rfl, rfl⟩
  rintro L σ1 x1 x3 x4 ⟨rfl, rfl, k, hk, rfl, rfl⟩ hL
  unfold lb_X3_countAbove_5
  rw [h2]
  simp only [ize]
  refine cle (by omega) (fun e => ?_) (fun e => ?_)
  · rw [show k = qN v by omega]; exact h
  · have hmu : 50 - (iz (k : Int) + iz 1).toNatClampNeg < 50 - (iz (k : Int)).toNatClampNeg := by
      rw [iz_s, iz_cl (by omega), iz_cl (by omega)]; omega
    have hk2 := hB k (by omega)
    rw [iz_cl (by omega), hk2.1]
    refine ⟨iz_in (by omega), bz_c (fun e4 => ?_) (fun e4 => ⟨iz_in (by omega), ?_⟩)⟩
    · refine hL _ _ _ _ ⟨rfl, rfl, k + 1, by omega, iz_s k, ?_⟩ hmu
      rw [fb_ct_succ, show fdP v 1 x1 k = false by simp [fdP, e4]]; simp
    · rw [hk2.2 e4]
      refine ⟨fun e5 => ?_, fun e5 => ?_⟩
      · refine hL _ _ _ _ ⟨rfl, rfl, k + 1, by omega, iz_s k, ?_⟩ hmu
        rw [fb_ct_succ, show fdP v 1 x1 k = false by simp only [fdP, e4, gtD]; simpa using e5]; simp
      · refine hL _ _ _ _ ⟨rfl, rfl, k + 1, by omega, iz_s k, ?_⟩ hmu
        rw [fb_ct_succ, show fdP v 1 x1 k = true by simp only [fdP, e4, gtD]; simpa using e5, iz_s]; rfl
theorem c_countBe {σ : SS} {K : SS → Int32 → Prop} {p : Nat} {v : S1} {y : UInt64} {q : Int} (hq : ¬ q = 0 ∧ ¬ q = 1) (h2 : gI σ p 2 = iz (qN v)) (hn : qN v ≤ 40) (hB : ∀ i, i < qN v → gA σ (p + 3) i = bz (qB v i) ∧ (qB v i = false → gD σ (p + 2) i = qD v i)) (h : K σ (iz (fb_ct (fdP v q y) (qN v)))) : wp_X3_countBelow σ p y K := by
  unfold wp_X3_countBelow
  simp only [ize]
  refine fx4_i (fun σ1 x1 x3 x4 => σ1 = σ ∧ x1 = y ∧ ∃ k : Nat, k ≤ qN v ∧ x4 = iz k ∧ x3 = iz (fb_ct (fdP v q y) k)) (fun _ _ _ x4 => 50 - x4.toNatClampNeg) ?_ _ _ _ _ ⟨rfl, rfl, 0, Nat.zero_le _, rfl, rfl⟩
  rintro L σ1 x1 x3 x4 ⟨rfl, rfl, k, hk, rfl, rfl⟩ hL
  unfold lb_X3_countBelow_5
  rw [h2]
  simp only [ize]
  refine cle (by omega) (fun e => ?_) (fun e => ?_)
  · rw [show k = qN v by omega]; exact h
  · have hmu : 50 - (iz (k : Int) + iz 1).toNatClampNeg < 50 - (iz (k : Int)).toNatClampNeg := by
      rw [iz_s, iz_cl (by omega), iz_cl (by omega)]; omega
    have hk2 := hB k (by omega)
    rw [iz_cl (by omega), hk2.1]
    refine ⟨iz_in (by omega), bz_c (fun e4 => ?_) (fun e4 => ⟨iz_in (by omega), ?_⟩)⟩
    · refine hL _ _ _ _ ⟨rfl, rfl, k + 1, by omega, iz_s k, ?_⟩ hmu
      rw [fb_ct_succ, show fdP v q x1 k = false by simp [fdP, e4, hq.1]]; simp
    · rw [hk2.2 e4]
      refine ⟨fun e5 => ?_, fun e5 => ?_⟩
      · refine hL _ _ _ _ ⟨rfl, rfl, k + 1, by omega, iz_s k, ?_⟩ hmu
        rw [fb_ct_succ, show fdP v q x1 k = false by simp only [fdP, e4, ltD, hq.1, hq.2]; simpa using e5]; simp
      · refine hL _ _ _ _ ⟨rfl, rfl, k + 1, by omega, iz_s k, ?_⟩ hmu
        rw [fb_ct_succ, show fdP v q x1 k = true by simp only [fdP, e4, ltD, hq.1, hq.2]; simpa using e5, iz_s]; rfl
