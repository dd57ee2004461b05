/-! ===== sheets: read ===== -/
def rdC (ok : Nat → Bool) : Nat → Nat → Nat
  | 0, k => k
  | f + 1, k => if ok k then rdC ok f (k + 1) else k
def rdOk (a : AT) (v : S1) (k : Nat) : Bool := decide (k < qN v ∧ bN a.1 + k < 40 ∧ -1 ≤ (qL v k).toInt ∧ (qL v k).toInt ≤ 99)
def rdA (a : AT) (v : S1) : Nat → AT
  | 0 => a
  | k + 1 => addA (rdA a v k) (qL v k).toInt
theorem rdA_2 (a : AT) (v : S1) : ∀ k, (rdA a v k).2 = a.2
  | 0 => rfl
  | k + 1 => rdA_2 a v k
theorem rdA_N (a : AT) (v : S1) : ∀ k, bN (rdA a v k).1 = bN a.1 + k
  | 0 => rfl
  | k + 1 => by show bN (rdA a v k).1 + 1 = _; rw [rdA_N a v k]; rfl
theorem AB_rd {a : AT} (hA : AB a) (v : S1) : ∀ k, (∀ j, j < k → rdOk a v j = true) → AB (rdA a v k)
  | 0, _ => hA
  | k + 1, h => by
    have h1 := h k (by omega)
    simp only [rdOk, decide_eq_true_eq] at h1
    exact AB_add (AB_rd hA v k (fun j hj => h j (by omega))) ⟨h1.2.2.1, h1.2.2.2⟩ (by rw [rdA_N]; exact h1.2.1)
theorem rdC_end {ok : Nat → Bool} {f k : Nat} (h : ok k = false) : rdC ok f k = k := by
  cases f with
  | zero => rfl
  | succ f => rw [rdC, h]; rfl
theorem rdC_go {ok : Nat → Bool} {f k : Nat} (h : ok k = true) : rdC ok (f + 1) k = rdC ok f (k + 1) := by rw [rdC, h]; rfl
theorem rdC_all {ok : Nat → Bool} : ∀ f k, ∀ j, k ≤ j → j < rdC ok f k → ok j = true
  | 0, k, j, h1, h2 => by simp only [rdC] at h2; omega
  | f + 1, k, j, h1, h2 => by
    cases e : ok k with
    | false => rw [rdC_end e] at h2; omega
    | true =>
      rw [rdC_go e] at h2
      by_cases q : j = k
      · rw [q]; exact e
      · exact rdC_all f (k + 1) j (by omega) h2
theorem p_read {σ τ : SS} {a : AT} (hA : AB a) (hC : CI σ a) (hM : MI τ a) (x : Int32) : prI (wp_X5_read σ x) (wp_X6_read τ x) := by
  have hx := i_rng x
  rw [← iz_of x]
  generalize x.toInt = z at hx
  have rN := hA.1.1.1
  by_cases e1 : 0 ≤ z ∧ z ≤ 3
  · obtain ⟨s, rfl⟩ := Int.eq_ofNat_of_zero_le e1.1
    have hs : s < 4 := by omega
    have cs := hC.2.1 s hs
    have ms := hM.2.1 s hs
    have hb := hA.2.2 s hs
    have hb1 := hb.1
    have hb2 := hb.2.1
    obtain ⟨v, hv⟩ : ∃ v, v = a.2.2.1 s := ⟨_, rfl⟩
    rw [← hv] at cs ms hb hb1 hb2
    obtain ⟨m, hm⟩ : ∃ m, m = rdC (rdOk a v) 41 0 := ⟨_, rfl⟩
    have hall : ∀ j, j < m → rdOk a v j = true := fun j hj => rdC_all 41 0 j (Nat.zero_le _) (by rw [← hm]; exact hj)
    have hst : ∀ k, (rdA a v k).2.2.1 s = v := fun k => by rw [rdA_2]; exact hv.symm
    have hc : ∀ K : SS → Int32 → Prop, (qF v = -1 → K (sI σ 0 8 (iz 1)) (iz (-11))) → (¬ qF v = -1 → ¬ qF v = 0 → K (sI σ 0 8 (iz 3)) (iz (-13))) → (qF v = 0 → ∀ σ', CI σ' (rdA a v m) → K σ' (iz m)) → wp_X5_read σ (iz s) K := by
      intro K h1 h2 h3
      unfold wp_X5_read
      simp only [ize]
      refine c_refusal hA hC hx (by omega) (fun q => absurd e1 q) (fun _ q => ?_) (fun _ q q2 => ?_) (fun _ e3 => ?_)
      · simp only [Int.toNat_natCast, ← hv] at q
        exact ⟨fun q => absurd q (by decide), fun _ => h1 q⟩
      · simp only [Int.toNat_natCast, ← hv] at q q2
        exact ⟨fun q => absurd q (by decide), fun _ => h2 q q2⟩
      · simp only [Int.toNat_natCast, ← hv] at e3
        refine ⟨fun _ => ⟨iz_in (by omega), ?_⟩, fun q => absurd rfl q⟩
        rw [iz_cl (by omega)]
        refine fx3_i (fun σ1 y3 x4 => y3 = 56 + 4 * s ∧ ∃ k : Nat, k ≤ 40 ∧ k ≤ qN v ∧ x4 = iz k ∧ CI σ1 (rdA a v k) ∧ m = rdC (rdOk a v) (41 - k) k) (fun _ _ x4 => 50 - x4.toNatClampNeg) ?_ _ _ _ ⟨rfl, 0, by omega, Nat.zero_le _, rfl, hC, hm⟩
        rintro L σ1 y3 x4 ⟨rfl, k, hk, hkn, rfl, hC1, hm1⟩ hL
        have cs1 := hC1.2.1 s hs
        rw [hst] at cs1
        have fin : rdOk a v k = false → K σ1 (iz k) := fun e4 => by
          rw [rdC_end e4] at hm1; subst hm1; exact h3 e3 _ hC1
        unfold lb_X5_read_23
        rw [(cs1.2.1 (by omega)).2, hC1.1.1.1.1, rdA_N]
        simp only [ize]
        refine cle (by omega) (fun e4 => fin (by simp [rdOk]; omega)) (fun e4 => cle (by omega) (fun e5 => fin (by simp [rdOk]; omega)) (fun e5 => ⟨iz_in (by omega), ?_⟩))
        rw [iz_cl (show k < 2147483648 by omega), cs1.2.2.1 e3 k (by omega)]
        have hl := l_rng (qL v k)
        rw [show wp_X5_isDelay σ1 (qL v k) = wp_X5_isDelay σ1 (lz (qL v k).toInt) by rw [lz_of]]
        refine c_isDelay hl (bz_d (fun e6 => ⟨iz_in (by omega), ?_⟩) (fun e6 => fin ?_))
        · simp only [decide_eq_true_eq] at e6
          rw [cs1.2.2.1 e3 k (by omega), show (qL v k).toInt32 = iz (qL v k).toInt by rw [← lz_i (by omega), lz_of]]
          refine c_addBeat hC1 (by rw [rdA_N]; omega) (fun σ2 hC2 => ?_)
          refine hL _ _ _ ⟨rfl, k + 1, by omega, by omega, iz_s k, hC2, ?_⟩ ?_
          · rw [hm1, show 41 - k = (41 - (k + 1)) + 1 by omega, rdC_go (by simp [rdOk]; omega)]
          · rw [iz_s, iz_cl (by omega), iz_cl (by omega)]; omega
        · simp only [decide_eq_false_iff_not] at e6
          simp [rdOk]; omega
    have hm' : ∀ K : SS → Int32 → Prop, (qF v = -1 → K (sI τ 100 27 (iz 1)) (iz (-11))) → (¬ qF v = -1 → ¬ qF v = 0 → K (sI τ 100 27 (iz 3)) (iz (-13))) → (qF v = 0 → ∀ τ', MI τ' (rdA a v m) → K τ' (iz m)) → wp_X6_read τ (iz s) K := by
      intro K h1 h2 h3
      unfold wp_X6_read
      simp only [ize]
      refine m_isSheet hx (bz_c (fun _ => ?_) (fun q => ?_))
      · rw [iz_cl (by omega), ms.1]
        refine ⟨iz_in (by omega), ceq (by omega) (fun e3 => ?_) (fun e3 => ⟨iz_in (by omega), cne (by omega) (fun e4 => m_meets (h2 e4 e3)) (fun e4 => m_meets (h1 e4))⟩)⟩
        refine fx3_i (fun τ1 x1 x2 => x1 = iz s ∧ ∃ k : Nat, k ≤ 40 ∧ k ≤ qN v ∧ x2 = iz k ∧ MI τ1 (rdA a v k) ∧ AB (rdA a v k) ∧ m = rdC (rdOk a v) (41 - k) k) (fun _ _ x2 => 50 - x2.toNatClampNeg) ?_ _ _ _ ⟨rfl, 0, by omega, Nat.zero_le _, rfl, hM, hA, hm⟩
        rintro L τ1 x1 x2 ⟨rfl, k, hk, hkn, rfl, hM1, hA1, hm1⟩ hL
        have ms1 := hM1.2.1 s hs
        rw [hst] at ms1
        have rN1 := hA1.1.1.1
        rw [rdA_N] at rN1
        have fin : rdOk a v k = false → K τ1 (iz k) := fun e4 => by
          rw [rdC_end e4] at hm1; subst hm1; exact h3 e3 _ hM1
        have hl := l_rng (qL v k)
        unfold lb_X6_read_41
        simp only [ize]
        rw [iz_cl (show s < 2147483648 by omega), ms1.2.1 (by omega), nw_cel]
        refine ⟨iz_in (by omega), cle (by omega) (fun e4 => fin (by simp [rdOk]; omega)) (fun e4 => ⟨iz_in (by omega), ?_⟩)⟩
        rw [iz_cl (show 40 * s + k < 2147483648 by omega), ms1.2.2.1 e3 k (by omega), ← ize.1, lg_cmp_lt, lg_cmp_gt, lze.2.2.2, lze.2.2.1, ← lz_of (qL v k), lz_lt (by omega), lz_lt (by omega), lz_of]
        refine ⟨fun e5 => fin (by simp [rdOk]; omega), fun e5 => ⟨iz_in (by omega), fun e6 => fin (by simp [rdOk]; omega), fun e6 => ⟨iz_in (by omega), ?_⟩⟩⟩
        rw [show (qL v k).toInt32 = iz (qL v k).toInt by rw [← lz_i (by omega), lz_of]]
        refine m_adds hM1 hA1 (by omega) (fun e7 e8 τ2 hM2 => ?_) (fun e7 e8 => ?_) (fun e7 => absurd (by omega) e7)
        · rw [rdA_N] at e8 ⊢
          refine cle (b := 0) (by omega) (fun e9 => by omega) (fun _ => ?_)
          refine hL _ _ _ ⟨rfl, k + 1, by omega, by omega, iz_s k, hM2, AB_add hA1 e7 (by rw [rdA_N]; exact e8), ?_⟩ ?_
          · rw [hm1, show 41 - k = (41 - (k + 1)) + 1 by omega, rdC_go (by simp [rdOk]; omega)]
          · rw [iz_s, iz_cl (by omega), iz_cl (by omega)]; omega
        · rw [rdA_N] at e8
          exact cle (b := 0) (by omega) (fun _ => fin (by simp [rdOk]; omega)) (fun q => by omega)
      · simp only [decide_eq_false_iff_not] at q; omega
    by_cases q1 : qF v = -1
    · exact ⟨iz (-11), fnA a (iz 1), hA, hc _ (fun _ => ⟨CI_fn hA hC _, rfl⟩) (fun q => absurd q1 q) (fun q => absurd q (by omega)), hm' _ (fun _ => ⟨MI_fn hM _, rfl⟩) (fun q => absurd q1 q) (fun q => absurd q (by omega))⟩
    · by_cases q2 : qF v = 0
      · exact ⟨_, _, AB_rd hA v m hall, hc _ (fun q => absurd q q1) (fun _ q => absurd q2 q) (fun _ σ' h => ⟨h, rfl⟩), hm' _ (fun q => absurd q q1) (fun _ q => absurd q2 q) (fun _ σ' h => ⟨h, rfl⟩)⟩
      · exact ⟨iz (-13), fnA a (iz 3), hA, hc _ (fun q => absurd q q1) (fun _ _ => ⟨CI_fn hA hC _, rfl⟩) (fun q => absurd q q2), hm' _ (fun q => absurd q q1) (fun _ _ => ⟨MI_fn hM _, rfl⟩) (fun q => absurd q q2)⟩
  · refine ⟨iz (-2), a, hA, ?_, ?_⟩
    · unfold wp_X5_read
      simp only [ize]
      exact c_refusal (f := 0) hA hC hx (by omega) (fun _ => ⟨fun q => absurd q (by decide), fun _ => ⟨hC, rfl⟩⟩) (fun q => absurd q e1) (fun q => absurd q e1) (fun q => absurd q e1)
    · unfold wp_X6_read
      refine m_isSheet hx (bz_c (fun e3 => ?_) (fun _ => ⟨hM, rfl⟩))
      simp only [decide_eq_true_eq] at e3; omega
