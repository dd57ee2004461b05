/-! ===== more of what changes ===== -/
def dlA (a : AT) (k : Nat) (v : Int) : AT := ((uz (bD a.1) k v, bN a.1, bP a.1, bS a.1, bW a.1), a.2)
theorem AB_dl {a : AT} (hA : AB a) {k : Nat} {v : Int} (hv : -1 ≤ v ∧ v ≤ 99) : AB (dlA a k v) :=
  ⟨⟨⟨hA.1.1.1, fun j => by
    show -1 ≤ uz (bD a.1) k v j ∧ uz (bD a.1) k v j ≤ 99
    by_cases e : j = k
    · rw [e, uz_s]; exact hv
    · rw [uz_n _ _ e]; exact hA.1.1.2 j⟩, hA.1.2⟩, hA.2⟩
theorem c_delay {σ : SS} {a : AT} {K : SS → Int32 → Prop} (hA : AB a) (hC : CI σ a) {z v : Int} (hz : -2147483648 ≤ z ∧ z < 2147483648) (hv : -2147483648 ≤ v ∧ v < 2147483648) (h1 : (0 ≤ z ∧ z < bN a.1) ∧ -1 ≤ v ∧ v ≤ 99 → ∀ σ', CI σ' (dlA a z.toNat v) → K σ' (iz (bD a.1 z.toNat))) (h2 : ¬ ((0 ≤ z ∧ z < bN a.1) ∧ -1 ≤ v ∧ v ≤ 99) → K σ (iz (-2))) : wp_X5_delay σ (iz z) (iz v) K := by
  have r := hA.1.1.1
  unfold wp_X5_delay
  rw [hC.1.1.1.1, iz_l hv]
  simp only [ize, iz_sub]
  refine c_win hz (by omega) (bz_d (fun e1 => c_isDelay (by omega) (bz_c (fun e2 => ?_) (fun e2 => ?_))) (fun e1 => ?_))
  · simp only [decide_eq_true_eq] at e1 e2
    obtain ⟨k, rfl⟩ := Int.eq_ofNat_of_zero_le e1.1
    simp only [Int.toNat_natCast] at h1
    have h1 := h1 ⟨by omega, e2⟩
    rw [iz_cl (by omega), hC.1.1.1.2.1]
    refine ⟨iz_in (by omega), iz_in (by omega), ?_⟩
    unfold wp_X5_forgetWhatFollowed
    obtain ⟨⟨⟨hCB, hCW⟩, _⟩, hS, hF⟩ := hC
    have hg : ag 0 56 σ (sA σ 1 k (iz v)) := ag_sA (by omega)
    refine h1 _ (CI_fg (b := (dlA a k v).1) (w := a.2.1) (st := a.2.2.1) (fn := a.2.2.2) ⟨hCB.1, fun j => ?_, hCB.2.2⟩ hCW (fun s hs => CS1_ag hg (by omega) (hS s hs)) hF)
    rw [gA_sA_s]; exact upd_uz hCB.2.1 j
  · simp only [decide_eq_true_eq, decide_eq_false_iff_not] at e1 e2
    exact h2 (by omega)
  · simp only [decide_eq_false_iff_not] at e1
    exact h2 (by omega)
theorem m_delay {τ : SS} {a : AT} {K : SS → Int32 → Prop} (hA : AB a) (hM : MI τ a) {z v : Int} (hz : -2147483648 ≤ z ∧ z < 2147483648) (hv : -2147483648 ≤ v ∧ v < 2147483648) (h1 : (0 ≤ z ∧ z < bN a.1) ∧ -1 ≤ v ∧ v ≤ 99 → ∀ τ', MI τ' (dlA a z.toNat v) → K τ' (iz (bD a.1 z.toNat))) (h2 : ¬ ((0 ≤ z ∧ z < bN a.1) ∧ -1 ≤ v ∧ v ≤ 99) → K τ (iz (-2))) : wp_X6_delay τ (iz z) (iz v) K := by
  have r := hA.1.1.1
  unfold wp_X6_delay
  simp only [ize]
  refine m_isBeat hM.1.1 hA.1 hz (bz_d (fun e1 => m_in hv (by omega) (bz_c (fun e2 => ?_) (fun e2 => ?_))) (fun e1 => ?_))
  · simp only [decide_eq_true_eq] at e1 e2
    obtain ⟨k, rfl⟩ := Int.eq_ofNat_of_zero_le e1.1
    simp only [Int.toNat_natCast] at h1
    have h1 := h1 ⟨by omega, e2⟩
    rw [iz_cl (by omega), hM.1.1.2.1]
    refine ⟨iz_in (by omega), iz_in (by omega), ?_⟩
    obtain ⟨⟨hMB, hMW⟩, hS, hF⟩ := hM
    refine h1 _ ⟨⟨⟨hMB.1, fun j => ?_, hMB.2.2⟩, hMW.1, fun j => ?_⟩, fun s hs => MS1_A (by omega) (hS s hs), hF⟩
    · rw [gA_sA_s]; exact upd_uz hMB.2.1 j
    · rw [gA_sA_p _ _ _ _ (by decide), gA_sA_p _ _ _ _ (by decide), gA_sA_p _ _ _ _ (by decide), gA_sA_p _ _ _ _ (by decide)]; exact hMW.2 j
  · simp only [decide_eq_true_eq, decide_eq_false_iff_not] at e1 e2
    exact h2 (by omega)
  · simp only [decide_eq_false_iff_not] at e1
    exact h2 (by omega)
theorem p_delay {σ τ : SS} {a : AT} (hA : AB a) (hC : CI σ a) (hM : MI τ a) (x y : Int32) : prI (wp_X5_delay σ x y) (wp_X6_delay τ x y) := by
  have hx := i_rng x
  have hy := i_rng y
  rw [← iz_of x, ← iz_of y]
  generalize x.toInt = z at hx
  generalize y.toInt = v at hy
  by_cases e : (0 ≤ z ∧ z < bN a.1) ∧ -1 ≤ v ∧ v ≤ 99
  · exact ⟨_, _, AB_dl hA e.2, c_delay hA hC hx hy (fun _ σ' h => ⟨h, rfl⟩) (fun h => absurd e h), m_delay hA hM hx hy (fun _ σ' h => ⟨h, rfl⟩) (fun h => absurd e h)⟩
  · exact ⟨_, a, hA, c_delay hA hC hx hy (fun h => absurd h e) (fun _ => ⟨hC, rfl⟩), m_delay hA hM hx hy (fun h => absurd h e) (fun _ => ⟨hM, rfl⟩)⟩
/-- the same but for how many -/
def nnA (a : AT) (n : Nat) : AT := ((bD a.1, n, bP a.1, bS a.1, bW a.1), a.2)
theorem CI_I {σ : SS} {a : AT} (hC : CI σ a) {k : Nat} {v : Int32} {b : BT} (hk : k ≠ 6 ∧ k ≠ 8) (hb : CB (sI σ 0 k v) b) : CI (sI (sI (sI σ 0 k v) 0 10 0) 0 12 0) (b, a.2) := by
  obtain ⟨⟨⟨hCB, hCW⟩, _⟩, hS, hF⟩ := hC
  have hg : ag 0 56 σ (sI σ 0 k v) := ag_sI (by omega)
  refine CI_fg (b := b) (w := a.2.1) (st := a.2.2.1) (fn := a.2.2.2) hb ⟨?_, fun j hj => ?_⟩ (fun s hs => CS1_ag hg (by omega) (hS s hs)) ?_
  · rw [gI_sI_k _ _ _ _ (by omega)]; exact hCW.1
  · rw [gI_sI_p _ _ _ _ (by omega), gI_sI_p _ _ _ _ (by omega), gI_sI_p _ _ _ _ (by omega), gI_sI_p _ _ _ _ (by omega)]; exact hCW.2 j hj
  · rw [gI_sI_k _ _ _ _ (by omega)]; exact hF
theorem MI_I {τ : SS} {a : AT} (hM : MI τ a) {k : Nat} {v : Int32} {b : BT} (hk : k ≠ 12 ∧ k ≠ 27) (hb : MB (sI τ 100 k v) b) : MI (sI τ 100 k v) (b, a.2) :=
  ⟨⟨hb, by rw [gI_sI_k _ _ _ _ (by omega)]; exact hM.1.2.1, hM.1.2.2⟩, hM.2.1, by rw [gI_sI_k _ _ _ _ (by omega)]; exact hM.2.2⟩
theorem p_back {σ τ : SS} {a : AT} (hA : AB a) (hC : CI σ a) (hM : MI τ a) : prI (wp_X5_back σ) (wp_X6_back τ) := by
  have r := hA.1.1.1
  by_cases e : bN a.1 = 0
  · refine ⟨iz (-3), a, hA, ?_, ?_⟩
    · unfold wp_X5_back
      rw [hC.1.1.1.1, e]
      exact ⟨fun h => absurd rfl h, fun _ => ⟨hC, rfl⟩⟩
    · unfold wp_X6_back
      rw [hM.1.1.1, e]
      exact ⟨fun h => absurd rfl h, fun _ => ⟨hM, rfl⟩⟩
  · have e1 : iz (bN a.1 : Int) - iz 1 = iz ((bN a.1 - 1 : Nat) : Int) := by rw [iz_sub]; congr 1; omega
    have e0 : ¬ iz (bN a.1 : Int) = 0 := by rw [show (0 : Int32) = iz 0 from rfl, iz_eq (by omega)]; omega
    refine ⟨iz ((bN a.1 - 1 : Nat) : Int), nnA a (bN a.1 - 1), ⟨⟨⟨show bN a.1 - 1 ≤ 40 by omega, hA.1.1.2⟩, hA.1.2⟩, hA.2⟩, ?_, ?_⟩
    · unfold wp_X5_back wp_X5_forgetWhatFollowed
      rw [hC.1.1.1.1, show (1 : Int32) = iz 1 from rfl, e1]
      refine ⟨fun _ => ?_, fun h => absurd h e0⟩
      have hC' : CI (sI (sI (sI σ 0 1 (iz ((bN a.1 - 1 : Nat) : Int))) 0 10 0) 0 12 0) (nnA a (bN a.1 - 1)) := by
        refine CI_I hC (by decide) ⟨gI_sI_s _ _ _ _, hC.1.1.1.2.1, ?_⟩
        rw [gI_sI_k _ _ _ _ (by decide), gI_sI_k _ _ _ _ (by decide), gI_sI_k _ _ _ _ (by decide)]; exact hC.1.1.1.2.2
      exact ⟨hC', hC'.1.1.1.1⟩
    · unfold wp_X6_back
      rw [hM.1.1.1, show (1 : Int32) = iz 1 from rfl, e1]
      refine ⟨fun _ => ⟨?_, gI_sI_s _ _ _ _⟩, fun h => absurd h e0⟩
      refine MI_I hM (by decide) ⟨gI_sI_s _ _ _ _, hM.1.1.2.1, ?_⟩
      rw [gI_sI_k _ _ _ _ (by decide), gI_sI_k _ _ _ _ (by decide), gI_sI_k _ _ _ _ (by decide)]; exact hM.1.1.2.2
def siA (a : AT) (v : Int) : AT := ((bD a.1, bN a.1, bP a.1, v, bW a.1), a.2)
theorem p_silence {σ τ : SS} {a : AT} (hA : AB a) (hC : CI σ a) (hM : MI τ a) (x : Int32) : prI (wp_X5_silence σ x) (wp_X6_silence τ x) := by
  have hx := i_rng x
  rw [← iz_of x]
  generalize x.toInt = z at hx
  have hc : ∀ K : SS → Int32 → Prop, (-1 ≤ z ∧ z ≤ 5000 → ∀ σ', CI σ' (siA a z) → K σ' (iz (bS a.1))) → (¬ (-1 ≤ z ∧ z ≤ 5000) → K σ (iz (-2))) → wp_X5_silence σ (iz z) K := by
    intro K h1 h2
    have hgo : -1 ≤ z ∧ z ≤ 5000 → bl_X5_silence_20 K σ (iz z) := by
      intro e
      unfold bl_X5_silence_20 wp_X5_forgetWhatFollowed
      rw [hC.1.1.1.2.2.2.2]
      refine h1 e _ (CI_I hC (by decide) ⟨?_, hC.1.1.1.2.1, ?_, ?_, gI_sI_s _ _ _ _⟩)
      · rw [gI_sI_k _ _ _ _ (by decide)]; exact hC.1.1.1.1
      · rw [gI_sI_k _ _ _ _ (by decide)]; exact hC.1.1.1.2.2.1
      · rw [gI_sI_k _ _ _ _ (by decide)]; exact hC.1.1.1.2.2.2.1
    unfold wp_X5_silence
    simp only [ize]
    refine c_win hx (by omega) (bz_c (fun e1 => ?_) (fun e1 => ceq (by omega) (fun e2 => hgo (by omega)) (fun e2 => ?_)))
    · simp only [decide_eq_true_eq] at e1
      exact hgo (by omega)
    · simp only [decide_eq_false_iff_not] at e1
      exact h2 (by omega)
  have hm : ∀ K : SS → Int32 → Prop, (-1 ≤ z ∧ z ≤ 5000 → ∀ τ', MI τ' (siA a z) → K τ' (iz (bS a.1))) → (¬ (-1 ≤ z ∧ z ≤ 5000) → K τ (iz (-2))) → wp_X6_silence τ (iz z) K := by
    intro K h1 h2
    unfold wp_X6_silence
    simp only [ize]
    refine m_in hx (by omega) (bz_c (fun e1 => ?_) (fun e1 => ?_))
    · simp only [decide_eq_true_eq] at e1
      rw [hM.1.1.2.2.2.2]
      refine h1 e1 _ (MI_I hM (by decide) ⟨?_, hM.1.1.2.1, ?_, ?_, gI_sI_s _ _ _ _⟩)
      · rw [gI_sI_k _ _ _ _ (by decide)]; exact hM.1.1.1
      · rw [gI_sI_k _ _ _ _ (by decide)]; exact hM.1.1.2.2.1
      · rw [gI_sI_k _ _ _ _ (by decide)]; exact hM.1.1.2.2.2.1
    · simp only [decide_eq_false_iff_not] at e1
      exact h2 e1
  by_cases e : -1 ≤ z ∧ z ≤ 5000
  · exact ⟨_, siA a z, ⟨⟨hA.1.1, hA.1.2.1, e, hA.1.2.2.2⟩, hA.2⟩, hc _ (fun _ σ' h => ⟨h, rfl⟩) (fun h => absurd e h), hm _ (fun _ σ' h => ⟨h, rfl⟩) (fun h => absurd e h)⟩
  · exact ⟨_, a, hA, hc _ (fun h => absurd h e) (fun _ => ⟨hC, rfl⟩), hm _ (fun h => absurd h e) (fun _ => ⟨hM, rfl⟩)⟩
def pdA (a : AT) (v : Int) : AT := ((bD a.1, bN a.1, v, bS a.1, bW a.1), a.2)
def wiA (a : AT) (v : Nat) : AT := ((bD a.1, bN a.1, bP a.1, bS a.1, v), a.2)
theorem CI_fg2 {σ : SS} {a : AT} (hC : CI σ a) {k : Nat} {v : Int32} {b : BT} (hk : k = 2 ∨ k = 3) (hb : CB (sI σ 0 k v) b) : CI (sI (sI (sI σ 0 10 0) 0 12 0) 0 k v) (b, a.2) := by
  have h := CI_I hC (k := k) (v := v) (by omega) hb
  have e : sI (sI (sI σ 0 10 0) 0 12 0) 0 k v = sI (sI (sI σ 0 k v) 0 10 0) 0 12 0 := by
    unfold sI
    simp only [Prod.mk.injEq, and_true]
    funext p j
    rcases hk with rfl | rfl <;> (by_cases e0 : p = 0 <;> by_cases e1 : j = 10 <;> by_cases e2 : j = 12 <;> by_cases e3 : j = 2 <;> by_cases e4 : j = 3 <;> simp_all [upd])
  rw [e]; exact h
theorem p_set {σ τ : SS} {a : AT} (hA : AB a) (hC : CI σ a) (hM : MI τ a) (x y : Int32) : prI (wp_X5_set σ x y) (wp_X6_set τ x y) := by
  have hx := i_rng x
  have hy := i_rng y
  rw [← iz_of x, ← iz_of y]
  generalize x.toInt = q at hx
  generalize y.toInt = v at hy
  have g0 : ∀ K : SS → Int32 → Prop, wp_X5_set σ (iz q) (iz v) K ↔ wp_X5_set σ (iz q) (iz v) K := fun _ => Iff.rfl
  by_cases e0 : q = 0
  · subst e0
    by_cases e : 1 ≤ v ∧ v ≤ 50
    · refine ⟨iz (bP a.1), pdA a v, ⟨⟨hA.1.1, e, hA.1.2.2⟩, hA.2⟩, ?_, ?_⟩
      · unfold wp_X5_set bl_X5_set_11 wp_X5_forgetWhatFollowed
        refine ⟨fun z => absurd rfl z, fun _ => ?_⟩
        simp only [ize]
        refine c_win (by omega) (by omega) (bz_d (fun _ => c_win hy (by omega) (bz_c (fun _ => ⟨fun z => absurd trivial z, fun _ => ?_⟩) (fun e1 => ?_))) (fun e1 => ?_))
        · refine ⟨CI_fg2 hC (Or.inl rfl) ⟨?_, hC.1.1.1.2.1, gI_sI_s _ _ _ _, ?_, ?_⟩, ?_⟩
          · rw [gI_sI_k _ _ _ _ (by decide)]; exact hC.1.1.1.1
          · rw [gI_sI_k _ _ _ _ (by decide)]; exact hC.1.1.1.2.2.2.1
          · rw [gI_sI_k _ _ _ _ (by decide)]; exact hC.1.1.1.2.2.2.2
          · rw [gI_sI_k _ _ _ _ (by decide), gI_sI_k _ _ _ _ (by decide)]; exact hC.1.1.1.2.2.1
        · simp only [decide_eq_false_iff_not] at e1; omega
        · simp only [decide_eq_false_iff_not] at e1; omega
      · unfold wp_X6_set bl_X6_set_50
        refine ⟨fun z => absurd rfl z, fun _ => ?_⟩
        simp only [ize]
        refine m_in hy (by omega) (bz_c (fun _ => ⟨fun z => absurd trivial z, fun _ => ⟨fun z => absurd trivial z, fun _ => ?_⟩⟩) (fun e1 => ?_))
        · refine ⟨MI_I hM (by decide) ⟨?_, hM.1.1.2.1, gI_sI_s _ _ _ _, ?_, ?_⟩, hM.1.1.2.2.1⟩
          · rw [gI_sI_k _ _ _ _ (by decide)]; exact hM.1.1.1
          · rw [gI_sI_k _ _ _ _ (by decide)]; exact hM.1.1.2.2.2.1
          · rw [gI_sI_k _ _ _ _ (by decide)]; exact hM.1.1.2.2.2.2
        · simp only [decide_eq_false_iff_not] at e1; omega
    · refine ⟨iz (-2), a, hA, ?_, ?_⟩
      · unfold wp_X5_set bl_X5_set_11
        refine ⟨fun z => absurd rfl z, fun _ => ?_⟩
        simp only [ize]
        refine c_win (by omega) (by omega) (bz_d (fun _ => c_win hy (by omega) (bz_c (fun e1 => ?_) (fun _ => ⟨hC, trivial⟩))) (fun _ => ⟨hC, trivial⟩))
        simp only [decide_eq_true_eq] at e1; omega
      · unfold wp_X6_set
        refine ⟨fun z => absurd rfl z, fun _ => ?_⟩
        simp only [ize]
        refine m_in hy (by omega) (bz_c (fun e1 => ?_) (fun _ => ⟨hM, trivial⟩))
        simp only [decide_eq_true_eq] at e1; omega
  · have n0 : ¬ iz q = 0 := by rw [show (0 : Int32) = iz 0 from rfl, iz_eq (by omega)]; exact e0
    by_cases e1 : q = 1
    · subst e1
      by_cases e : 1 ≤ v ∧ v ≤ 16
      · obtain ⟨v, rfl⟩ := Int.eq_ofNat_of_zero_le (show 0 ≤ v by omega)
        refine ⟨iz (bW a.1), wiA a v, ⟨⟨hA.1.1, hA.1.2.1, hA.1.2.2.1, by show 1 ≤ v; omega, by show v ≤ 16; omega⟩, hA.2⟩, ?_, ?_⟩
        · unfold wp_X5_set bl_X5_set_11 wp_X5_forgetWhatFollowed
          refine ⟨fun _ => ?_, fun z => absurd z n0⟩
          simp only [ize]
          refine c_win (by omega) (by omega) (bz_d (fun _ => c_win hy (by omega) (bz_c (fun _ => ⟨fun _ => ?_, fun z => absurd z n0⟩) (fun e1 => ?_))) (fun e1 => ?_))
          · refine ⟨CI_fg2 hC (Or.inr rfl) ⟨?_, hC.1.1.1.2.1, ?_, gI_sI_s _ _ _ _, ?_⟩, ?_⟩
            · rw [gI_sI_k _ _ _ _ (by decide)]; exact hC.1.1.1.1
            · rw [gI_sI_k _ _ _ _ (by decide)]; exact hC.1.1.1.2.2.1
            · rw [gI_sI_k _ _ _ _ (by decide)]; exact hC.1.1.1.2.2.2.2
            · rw [gI_sI_k _ _ _ _ (by decide), gI_sI_k _ _ _ _ (by decide)]; exact hC.1.1.1.2.2.2.1
          · simp only [decide_eq_false_iff_not] at e1; omega
          · simp only [decide_eq_false_iff_not] at e1; omega
        · unfold wp_X6_set bl_X6_set_50
          refine ⟨fun _ => ⟨fun z => absurd rfl z, fun _ => ?_⟩, fun z => absurd z n0⟩
          simp only [ize]
          refine m_in hy (by omega) (bz_c (fun _ => ⟨fun _ => ⟨fun _ => ?_, fun z => absurd z n0⟩, fun z => absurd z n0⟩) (fun e1 => ?_))
          · refine ⟨MI_I hM (by decide) ⟨?_, hM.1.1.2.1, ?_, gI_sI_s _ _ _ _, ?_⟩, hM.1.1.2.2.2.1⟩
            · rw [gI_sI_k _ _ _ _ (by decide)]; exact hM.1.1.1
            · rw [gI_sI_k _ _ _ _ (by decide)]; exact hM.1.1.2.2.1
            · rw [gI_sI_k _ _ _ _ (by decide)]; exact hM.1.1.2.2.2.2
          · simp only [decide_eq_false_iff_not] at e1; omega
      · refine ⟨iz (-2), a, hA, ?_, ?_⟩
        · unfold wp_X5_set bl_X5_set_11
          refine ⟨fun _ => ?_, fun z => absurd z n0⟩
          simp only [ize]
          refine c_win (by omega) (by omega) (bz_d (fun _ => c_win hy (by omega) (bz_c (fun e1 => ?_) (fun _ => ⟨hC, trivial⟩))) (fun _ => ⟨hC, trivial⟩))
          simp only [decide_eq_true_eq] at e1; omega
        · unfold wp_X6_set
          refine ⟨fun _ => ⟨fun z => absurd rfl z, fun _ => ?_⟩, fun z => absurd z n0⟩
          simp only [ize]
          refine m_in hy (by omega) (bz_c (fun e1 => ?_) (fun _ => ⟨hM, trivial⟩))
          simp only [decide_eq_true_eq] at e1; omega
    · have n1 : ¬ iz q = 1 := by rw [show (1 : Int32) = iz 1 from rfl, iz_eq (by omega)]; exact e1
      refine ⟨iz (-2), a, hA, ?_, ?_⟩
      · unfold wp_X5_set bl_X5_set_11
        refine ⟨fun _ => ?_, fun z => absurd z n0⟩
        simp only [ize]
        refine c_win hx (by omega) (bz_d (fun e2 => ?_) (fun _ => ⟨hC, trivial⟩))
        simp only [decide_eq_true_eq] at e2; omega
      · unfold wp_X6_set
        exact ⟨fun _ => ⟨fun _ => ⟨hM, rfl⟩, fun z => absurd z n1⟩, fun z => absurd z n0⟩
