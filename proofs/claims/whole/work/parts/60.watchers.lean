/-! ===== watcher, leaves, measure, wish ===== -/
theorem c_isMeasure {σ : SS} {K : SS → Int32 → Prop} {so ms : Int} (hs : 0 ≤ so ∧ so ≤ 3) (hm : -2147483648 ≤ ms ∧ ms < 2147483648) (h : K σ (bz (okB so ms))) : wp_X5_isMeasure σ (iz so) (iz ms) K := by
  unfold wp_X5_isMeasure
  refine ⟨iz_in (by omega), iz_in (by omega), ?_⟩
  have e3 : so = 0 ∨ so = 1 ∨ so = 2 ∨ so = 3 := by omega
  rcases e3 with rfl | rfl | rfl | rfl
  · rw [show lmA (iz 0).toNatClampNeg = iz 0 from rfl, show gmA (iz 0).toNatClampNeg = iz 99 from rfl]
    refine c_win hm (by omega) ⟨bz_or _, ?_⟩
    rw [show okB 0 ms = decide (0 ≤ ms ∧ ms ≤ 99) by simp [okB]] at h; exact h
  · rw [show lmA (iz 1).toNatClampNeg = iz 1 from rfl, show gmA (iz 1).toNatClampNeg = iz 10 from rfl]
    refine c_win hm (by omega) ⟨bz_or _, ?_⟩
    rw [show okB 1 ms = decide (1 ≤ ms ∧ ms ≤ 10) by simp [okB]] at h; exact h
  · rw [show lmA (iz 2).toNatClampNeg = iz 1 from rfl, show gmA (iz 2).toNatClampNeg = iz 200 from rfl]
    refine c_win hm (by omega) ⟨bz_or _, ?_⟩
    rw [show okB 2 ms = decide (1 ≤ ms ∧ ms ≤ 200) by simp [okB]] at h; exact h
  · rw [show lmA (iz 3).toNatClampNeg = iz 0 from rfl, show gmA (iz 3).toNatClampNeg = iz 30 from rfl]
    refine c_win hm (by omega) ⟨bz_or _, ?_⟩
    rw [show okB 3 ms = decide (0 ≤ ms ∧ ms ≤ 30) by simp [okB]] at h; exact h
def wA (a : AT) (w : WT) : AT := (a.1, w, a.2.2)
def wAd (w : WT) (so ms : Int) : WT := (wN w + 1, uz (wS w) (wN w) so, uz (wM w) (wN w) ms, uz (wO w) (wN w) (-1), uz (wF w) (wN w) (-1))
theorem AB_wad {a : AT} (hA : AB a) {so ms : Int} (h : okW so ms) (hn : wN a.2.1 < 5) : AB (wA a (wAd a.2.1 so ms)) := by
  refine ⟨hA.1, ⟨hn, fun k hk => ?_⟩, hA.2.2⟩
  show okW (uz (wS a.2.1) (wN a.2.1) so k) (uz (wM a.2.1) (wN a.2.1) ms k) ∧ (-1 ≤ uz (wO a.2.1) (wN a.2.1) (-1) k ∧ uz (wO a.2.1) (wN a.2.1) (-1) k ≤ 500) ∧ (-1 ≤ uz (wF a.2.1) (wN a.2.1) (-1) k ∧ uz (wF a.2.1) (wN a.2.1) (-1) k ≤ 40)
  have hk : k < wN a.2.1 + 1 := hk
  by_cases e : k = wN a.2.1
  · subst e
    rw [uz_s, uz_s, uz_s, uz_s]
    exact ⟨h, by omega, by omega⟩
  · rw [uz_n _ _ e, uz_n _ _ e, uz_n _ _ e, uz_n _ _ e]
    exact hA.2.1.2 k (by omega)
theorem c_watcher {σ : SS} {a : AT} {K : SS → Int32 → Prop} (hA : AB a) (hC : CI σ a) {so ms : Int} (hs : -2147483648 ≤ so ∧ so < 2147483648) (hm : -2147483648 ≤ ms ∧ ms < 2147483648) (h1 : okW so ms → wN a.2.1 < 5 → ∀ σ', CI σ' (wA a (wAd a.2.1 so ms)) → K σ' (iz (wN a.2.1))) (h2 : okW so ms → ¬ wN a.2.1 < 5 → K σ (iz (-4))) (h3 : ¬ okW so ms → K σ (iz (-2))) : wp_X5_watcher σ (iz so) (iz ms) K := by
  have r := hA.2.1.1
  unfold wp_X5_watcher
  simp only [ize]
  refine c_win hs (by omega) (bz_d (fun e1 => ?_) (fun e1 => ?_))
  · simp only [decide_eq_true_eq] at e1
    refine c_isMeasure e1 hm (bz_c (fun e2 => ?_) (fun e2 => ?_))
    · have e2 := okB_iff.mp e2
      rw [hC.1.1.2.1]
      refine clt (by omega) (fun e3 => ⟨iz_in (by omega), ?_⟩) (fun e3 => h2 e2 (by omega))
      have e3 : wN a.2.1 < 5 := by omega
      unfold wp_X4_begin wp_X5_forgetWhatFollowed
      obtain ⟨⟨⟨hCB, hCW⟩, _⟩, hS, hF⟩ := hC
      rw [iz_cl (by omega)]
      generalize hn : wN a.2.1 = n at h1 e3
      have hI : ∀ p j, p ≠ 26 + 6 * n → gI (sI (sI (sI (sI σ (26 + 6 * n) 0 (iz so)) (26 + 6 * n) 1 (iz ms)) (26 + 6 * n) 2 (-1)) (26 + 6 * n) 3 (-1)) p j = gI σ p j := fun p j hp => by
        rw [gI_sI_p _ _ _ _ hp, gI_sI_p _ _ _ _ hp, gI_sI_p _ _ _ _ hp, gI_sI_p _ _ _ _ hp]
      have hg : ag 0 56 σ (sI (sI (sI (sI σ (26 + 6 * n) 0 (iz so)) (26 + 6 * n) 1 (iz ms)) (26 + 6 * n) 2 (-1)) (26 + 6 * n) 3 (-1)) := ag_t (ag_t (ag_t (ag_sI (by omega)) (ag_sI (by omega))) (ag_sI (by omega))) (ag_sI (by omega))
      have h0 : gI (sI (sI (sI (sI σ (26 + 6 * n) 0 (iz so)) (26 + 6 * n) 1 (iz ms)) (26 + 6 * n) 2 (-1)) (26 + 6 * n) 3 (-1)) (26 + 6 * n) 0 = iz so := by
        rw [gI_sI_k _ _ _ _ (by decide), gI_sI_k _ _ _ _ (by decide), gI_sI_k _ _ _ _ (by decide), gI_sI_s]
      have h1' : gI (sI (sI (sI (sI σ (26 + 6 * n) 0 (iz so)) (26 + 6 * n) 1 (iz ms)) (26 + 6 * n) 2 (-1)) (26 + 6 * n) 3 (-1)) (26 + 6 * n) 1 = iz ms := by
        rw [gI_sI_k _ _ _ _ (by decide), gI_sI_k _ _ _ _ (by decide), gI_sI_s]
      have h2' : gI (sI (sI (sI (sI σ (26 + 6 * n) 0 (iz so)) (26 + 6 * n) 1 (iz ms)) (26 + 6 * n) 2 (-1)) (26 + 6 * n) 3 (-1)) (26 + 6 * n) 2 = iz (-1) := by
        rw [gI_sI_k _ _ _ _ (by decide), gI_sI_s]; rfl
      have h3' : gI (sI (sI (sI (sI σ (26 + 6 * n) 0 (iz so)) (26 + 6 * n) 1 (iz ms)) (26 + 6 * n) 2 (-1)) (26 + 6 * n) 3 (-1)) (26 + 6 * n) 3 = iz (-1) := by
        rw [gI_sI_s]; rfl
      have hA1 : ∀ p, gA (sI (sI (sI (sI σ (26 + 6 * n) 0 (iz so)) (26 + 6 * n) 1 (iz ms)) (26 + 6 * n) 2 (-1)) (26 + 6 * n) 3 (-1)) p = gA σ p := fun p => rfl
      generalize sI (sI (sI (sI σ (26 + 6 * n) 0 (iz so)) (26 + 6 * n) 1 (iz ms)) (26 + 6 * n) 2 (-1)) (26 + 6 * n) 3 (-1) = X at *
      show K (sI (sI (sI X 0 6 (gI X 0 6 + iz 1)) 0 10 0) 0 12 0) (gI (sI (sI (sI X 0 6 (gI X 0 6 + iz 1)) 0 10 0) 0 12 0) 0 6 - iz 1)
      rw [hI 0 6 (by omega), hCW.1, hn, iz_s]
      have hX : CI (sI (sI (sI X 0 6 (iz ((n + 1 : Nat) : Int))) 0 10 0) 0 12 0) (wA a (wAd a.2.1 so ms)) := by
        refine CI_fg (b := a.1) (w := wAd a.2.1 so ms) (st := a.2.2.1) (fn := a.2.2.2) ⟨?_, ?_, ?_, ?_, ?_⟩ ⟨?_, fun k hk => ?_⟩ (fun s hs => CS1_ag (ag_t hg (ag_sI (by omega))) (by omega) (hS s hs)) ?_
        · rw [gI_sI_k _ _ _ _ (by decide), hI _ _ (by omega)]; exact hCB.1
        · intro k; rw [gA_sI, hA1]; exact hCB.2.1 k
        · rw [gI_sI_k _ _ _ _ (by decide), hI _ _ (by omega)]; exact hCB.2.2.1
        · rw [gI_sI_k _ _ _ _ (by decide), hI _ _ (by omega)]; exact hCB.2.2.2.1
        · rw [gI_sI_k _ _ _ _ (by decide), hI _ _ (by omega)]; exact hCB.2.2.2.2
        · rw [gI_sI_s]; show _ = iz ((wN a.2.1 + 1 : Nat) : Int); rw [hn]
        · rw [gI_sI_p _ _ _ _ (by omega), gI_sI_p _ _ _ _ (by omega), gI_sI_p _ _ _ _ (by omega), gI_sI_p _ _ _ _ (by omega)]
          show _ = iz (uz (wS a.2.1) (wN a.2.1) so k) ∧ _ = iz (uz (wM a.2.1) (wN a.2.1) ms k) ∧ _ = iz (uz (wO a.2.1) (wN a.2.1) (-1) k) ∧ _ = iz (uz (wF a.2.1) (wN a.2.1) (-1) k)
          rw [hn]
          by_cases e : k = n
          · subst e; rw [uz_s, uz_s, uz_s, uz_s]; exact ⟨h0, h1', h2', h3'⟩
          · rw [uz_n _ _ e, uz_n _ _ e, uz_n _ _ e, uz_n _ _ e, hI _ _ (by omega), hI _ _ (by omega), hI _ _ (by omega), hI _ _ (by omega)]; exact hCW.2 k hk
        · rw [gI_sI_k _ _ _ _ (by decide), hI _ _ (by omega)]; exact hF
      have hr : gI (sI (sI (sI X 0 6 (iz ((n + 1 : Nat) : Int))) 0 10 0) 0 12 0) 0 6 - iz 1 = iz n := by
        rw [gI_sI_k _ _ _ _ (by decide), gI_sI_k _ _ _ _ (by decide), gI_sI_s, iz_sub]; congr 1; omega
      have h1 := h1 e2 e3 _ hX
      rw [← hr] at h1; exact h1
    · exact h3 (fun z => by rw [okB_iff.mpr z] at e2; cases e2)
  · simp only [decide_eq_false_iff_not] at e1
    exact h3 (fun z => e1 (okW_rng z).1)
theorem m_watcher {τ : SS} {a : AT} {K : SS → Int32 → Prop} (hA : AB a) (hM : MI τ a) {so ms : Int} (hs : -2147483648 ≤ so ∧ so < 2147483648) (hm : -2147483648 ≤ ms ∧ ms < 2147483648) (h1 : okW so ms → wN a.2.1 < 5 → ∀ τ', MI τ' (wA a (wAd a.2.1 so ms)) → K τ' (iz (wN a.2.1))) (h2 : okW so ms → ¬ wN a.2.1 < 5 → K τ (iz (-4))) (h3 : ¬ okW so ms → K τ (iz (-2))) : wp_X6_watcher τ (iz so) (iz ms) K := by
  have r := hA.2.1.1
  unfold wp_X6_watcher
  simp only [ize]
  refine m_isMeasure hs hm (bz_c (fun e2 => ?_) (fun e2 => ?_))
  · have e2 := okB_iff.mp e2
    obtain ⟨⟨hMB, hMW⟩, hS, hF⟩ := hM
    rw [hMW.1]
    refine cne (by omega) (fun e3 => ⟨iz_in (by omega), iz_in (by omega), iz_in (by omega), iz_in (by omega), ?_⟩) (fun e3 => h2 e2 (by omega))
    rw [iz_cl (by omega), iz_s, gI_sI_s, iz_sub, show ((wN a.2.1 + 1 : Nat) : Int) - 1 = (wN a.2.1 : Int) by omega]
    refine h1 e2 (by omega) _ ⟨⟨⟨?_, fun k => ?_, ?_, ?_, ?_⟩, gI_sI_s _ _ _ _, fun k => ⟨?_, ?_, ?_, ?_⟩⟩, fun s hs => MS1_I (MS1_A (by omega) (MS1_A (by omega) (MS1_A (by omega) (MS1_A (by omega) (hS s hs))))), ?_⟩
    · rw [gI_sI_k _ _ _ _ (by decide)]; exact hMB.1
    · rw [gA_sI, gA_sA_p _ _ _ _ (by decide), gA_sA_p _ _ _ _ (by decide), gA_sA_p _ _ _ _ (by decide), gA_sA_p _ _ _ _ (by decide)]; exact hMB.2.1 k
    · rw [gI_sI_k _ _ _ _ (by decide)]; exact hMB.2.2.1
    · rw [gI_sI_k _ _ _ _ (by decide)]; exact hMB.2.2.2.1
    · rw [gI_sI_k _ _ _ _ (by decide)]; exact hMB.2.2.2.2
    · rw [gA_sI, gA_sA_p _ _ _ _ (by decide), gA_sA_p _ _ _ _ (by decide), gA_sA_p _ _ _ _ (by decide), gA_sA_s]; exact upd_uz (fun j => (hMW.2 j).1) k
    · rw [gA_sI, gA_sA_p _ _ _ _ (by decide), gA_sA_p _ _ _ _ (by decide), gA_sA_s, gA_sA_p _ _ _ _ (by decide)]; exact upd_uz (fun j => (hMW.2 j).2.1) k
    · rw [gA_sI, gA_sA_p _ _ _ _ (by decide), gA_sA_s, gA_sA_p _ _ _ _ (by decide), gA_sA_p _ _ _ _ (by decide)]; exact upd_uz (fun j => (hMW.2 j).2.2.1) k
    · rw [gA_sI, gA_sA_s, gA_sA_p _ _ _ _ (by decide), gA_sA_p _ _ _ _ (by decide), gA_sA_p _ _ _ _ (by decide)]; exact upd_uz (fun j => (hMW.2 j).2.2.2) k
    · rw [gI_sI_k _ _ _ _ (by decide)]; exact hF
  · exact h3 (fun z => by rw [okB_iff.mpr z] at e2; cases e2)
theorem p_watcher {σ τ : SS} {a : AT} (hA : AB a) (hC : CI σ a) (hM : MI τ a) (x y : Int32) : prI (wp_X5_watcher σ x y) (wp_X6_watcher τ x y) := by
  have hx := i_rng x
  have hy := i_rng y
  rw [← iz_of x, ← iz_of y]
  generalize x.toInt = so at hx
  generalize y.toInt = ms at hy
  by_cases e : okW so ms
  · by_cases e2 : wN a.2.1 < 5
    · exact ⟨_, _, AB_wad hA e e2, c_watcher hA hC hx hy (fun _ _ σ' h => ⟨h, rfl⟩) (fun _ h => absurd e2 h) (fun h => absurd e h), m_watcher hA hM hx hy (fun _ _ σ' h => ⟨h, rfl⟩) (fun _ h => absurd e2 h) (fun h => absurd e h)⟩
    · exact ⟨_, a, hA, c_watcher hA hC hx hy (fun _ h => absurd h e2) (fun _ _ => ⟨hC, rfl⟩) (fun h => absurd e h), m_watcher hA hM hx hy (fun _ h => absurd h e2) (fun _ _ => ⟨hM, rfl⟩) (fun h => absurd e h)⟩
  · exact ⟨_, a, hA, c_watcher hA hC hx hy (fun h => absurd h e) (fun h => absurd h e) (fun _ => ⟨hC, rfl⟩), m_watcher hA hM hx hy (fun h => absurd h e) (fun h => absurd h e) (fun _ => ⟨hM, rfl⟩)⟩
def wNn (w : WT) (n : Nat) : WT := (n, wS w, wM w, wO w, wF w)
theorem p_leaves {σ τ : SS} {a : AT} (hA : AB a) (hC : CI σ a) (hM : MI τ a) : prI (wp_X5_leaves σ) (wp_X6_leaves τ) := by
  have r := hA.2.1.1
  by_cases e : wN a.2.1 = 0
  · refine ⟨iz (-3), a, hA, ?_, ?_⟩
    · unfold wp_X5_leaves
      rw [hC.1.1.2.1, e]
      exact ⟨fun h => absurd rfl h, fun _ => ⟨hC, rfl⟩⟩
    · unfold wp_X6_leaves
      rw [hM.1.2.1, e]
      exact ⟨fun h => absurd rfl h, fun _ => ⟨hM, rfl⟩⟩
  · have e1 : iz (wN a.2.1 : Int) - iz 1 = iz ((wN a.2.1 - 1 : Nat) : Int) := by rw [iz_sub]; congr 1; omega
    have e0 : ¬ iz (wN a.2.1 : Int) = 0 := by rw [show (0 : Int32) = iz 0 from rfl, iz_eq (by omega)]; omega
    refine ⟨iz ((wN a.2.1 - 1 : Nat) : Int), wA a (wNn a.2.1 (wN a.2.1 - 1)), ⟨hA.1, ⟨show wN a.2.1 - 1 ≤ 5 by omega, fun k hk => hA.2.1.2 k (by have : k < wN a.2.1 - 1 := hk; omega)⟩, hA.2.2⟩, ?_, ?_⟩
    · unfold wp_X5_leaves wp_X5_forgetWhatFollowed
      rw [hC.1.1.2.1, show (1 : Int32) = iz 1 from rfl, e1]
      refine ⟨fun _ => ?_, fun h => absurd h e0⟩
      obtain ⟨⟨⟨hCB, hCW⟩, _⟩, hS, hF⟩ := hC
      have hC' : CI (sI (sI (sI σ 0 6 (iz ((wN a.2.1 - 1 : Nat) : Int))) 0 10 0) 0 12 0) (wA a (wNn a.2.1 (wN a.2.1 - 1))) := by
        have hg : ag 0 56 σ (sI σ 0 6 (iz ((wN a.2.1 - 1 : Nat) : Int))) := ag_sI (by omega)
        refine CI_fg (b := a.1) (w := wNn a.2.1 (wN a.2.1 - 1)) (st := a.2.2.1) (fn := a.2.2.2) ⟨?_, ?_, ?_, ?_, ?_⟩ ⟨gI_sI_s _ _ _ _, fun k hk => ?_⟩ (fun s hs => CS1_ag hg (by omega) (hS s hs)) ?_
        · rw [gI_sI_k _ _ _ _ (by decide)]; exact hCB.1
        · intro k; exact hCB.2.1 k
        · rw [gI_sI_k _ _ _ _ (by decide)]; exact hCB.2.2.1
        · rw [gI_sI_k _ _ _ _ (by decide)]; exact hCB.2.2.2.1
        · rw [gI_sI_k _ _ _ _ (by decide)]; exact hCB.2.2.2.2
        · rw [gI_sI_p _ _ _ _ (by omega), gI_sI_p _ _ _ _ (by omega), gI_sI_p _ _ _ _ (by omega), gI_sI_p _ _ _ _ (by omega)]; exact hCW.2 k hk
        · rw [gI_sI_k _ _ _ _ (by decide)]; exact hF
      exact ⟨hC', hC'.1.1.2.1⟩
    · unfold wp_X6_leaves
      rw [hM.1.2.1, show (1 : Int32) = iz 1 from rfl, e1]
      obtain ⟨⟨hMB, hMW⟩, hS, hF⟩ := hM
      refine ⟨fun _ => ⟨⟨⟨⟨?_, hMB.2.1, ?_, ?_, ?_⟩, gI_sI_s _ _ _ _, hMW.2⟩, hS, ?_⟩, gI_sI_s _ _ _ _⟩, fun h => absurd h e0⟩
      · rw [gI_sI_k _ _ _ _ (by decide)]; exact hMB.1
      · rw [gI_sI_k _ _ _ _ (by decide)]; exact hMB.2.2.1
      · rw [gI_sI_k _ _ _ _ (by decide)]; exact hMB.2.2.2.1
      · rw [gI_sI_k _ _ _ _ (by decide)]; exact hMB.2.2.2.2
      · rw [gI_sI_k _ _ _ _ (by decide)]; exact hF
/-- one field of a watcher set, and what was worked out forgotten, in either order -/
theorem CI_wf {σ X : SS} {a : AT} (hC : CI σ a) {k j : Nat} (hk : k < 5) (w : WT) (hw : wN w = wN a.2.1) (hX : (∀ p i, p ≠ 26 + 6 * k → (i ≠ 10 ∧ i ≠ 12) → gI X p i = gI σ p i) ∧ (gI X 0 10 = iz 0 ∧ gI X 0 12 = iz 0) ∧ ag 0 56 σ X ∧ gA X 1 = gA σ 1) (hf : ∀ q, q < 5 → gI X (26 + 6 * q) 0 = iz (wS w q) ∧ gI X (26 + 6 * q) 1 = iz (wM w q) ∧ gI X (26 + 6 * q) 2 = iz (wO w q) ∧ gI X (26 + 6 * q) 3 = iz (wF w q)) : CI X (wA a w) := by
  obtain ⟨⟨⟨hCB, hCW⟩, _⟩, hS, hF⟩ := hC
  obtain ⟨hI, ⟨h10, h12⟩, hg, hA1⟩ := hX
  refine ⟨⟨⟨⟨?_, fun q => ?_, ?_, ?_, ?_⟩, ?_, hf⟩, Or.inl h10, Or.inl h12⟩, fun s hs => CS1_ag hg (by omega) (hS s hs), ?_⟩
  · rw [hI _ _ (by omega) (by decide)]; exact hCB.1
  · rw [hA1]; exact hCB.2.1 q
  · rw [hI _ _ (by omega) (by decide)]; exact hCB.2.2.1
  · rw [hI _ _ (by omega) (by decide)]; exact hCB.2.2.2.1
  · rw [hI _ _ (by omega) (by decide)]; exact hCB.2.2.2.2
  · rw [hI _ _ (by omega) (by decide)]; show gI σ 0 6 = iz (wN w); rw [hw]; exact hCW.1
  · rw [hI _ _ (by omega) (by decide)]; exact hF
def wMs (w : WT) (k : Nat) (v : Int) : WT := (wN w, wS w, uz (wM w) k v, wO w, wF w)
def wNo (w : WT) (k : Nat) (v : Int) : WT := (wN w, wS w, wM w, uz (wO w) k v, wF w)
def wFe (w : WT) (k : Nat) (v : Int) : WT := (wN w, wS w, wM w, wO w, uz (wF w) k v)
theorem sI_fg {σ : SS} {k j : Nat} {v : Int32} (hk : k < 5) : (∀ p i, p ≠ 26 + 6 * k → (i ≠ 10 ∧ i ≠ 12) → gI (sI (sI (sI σ (26 + 6 * k) j v) 0 10 0) 0 12 0) p i = gI σ p i) ∧ (gI (sI (sI (sI σ (26 + 6 * k) j v) 0 10 0) 0 12 0) 0 10 = iz 0 ∧ gI (sI (sI (sI σ (26 + 6 * k) j v) 0 10 0) 0 12 0) 0 12 = iz 0) ∧ ag 0 56 σ (sI (sI (sI σ (26 + 6 * k) j v) 0 10 0) 0 12 0) ∧ gA (sI (sI (sI σ (26 + 6 * k) j v) 0 10 0) 0 12 0) 1 = gA σ 1 := by
  refine ⟨fun p i hp hi => ?_, ⟨?_, ?_⟩, ag_t (ag_t (ag_sI (by omega)) (ag_sI (by omega))) (ag_sI (by omega)), rfl⟩
  · rw [gI_sI_k _ _ _ _ hi.2, gI_sI_k _ _ _ _ hi.1, gI_sI_p _ _ _ _ hp]
  · rw [gI_sI_k _ _ _ _ (by decide), gI_sI_s]; rfl
  · rw [gI_sI_s]; rfl
theorem fg_sI {σ : SS} {k j : Nat} {v : Int32} (hk : k < 5) : (∀ p i, p ≠ 26 + 6 * k → (i ≠ 10 ∧ i ≠ 12) → gI (sI (sI (sI σ 0 10 0) 0 12 0) (26 + 6 * k) j v) p i = gI σ p i) ∧ (gI (sI (sI (sI σ 0 10 0) 0 12 0) (26 + 6 * k) j v) 0 10 = iz 0 ∧ gI (sI (sI (sI σ 0 10 0) 0 12 0) (26 + 6 * k) j v) 0 12 = iz 0) ∧ ag 0 56 σ (sI (sI (sI σ 0 10 0) 0 12 0) (26 + 6 * k) j v) ∧ gA (sI (sI (sI σ 0 10 0) 0 12 0) (26 + 6 * k) j v) 1 = gA σ 1 := by
  refine ⟨fun p i hp hi => ?_, ⟨?_, ?_⟩, ag_t (ag_t (ag_sI (by omega)) (ag_sI (by omega))) (ag_sI (by omega)), rfl⟩
  · rw [gI_sI_p _ _ _ _ hp, gI_sI_k _ _ _ _ hi.2, gI_sI_k _ _ _ _ hi.1]
  · rw [gI_sI_p _ _ _ _ (by omega), gI_sI_k _ _ _ _ (by decide), gI_sI_s]; rfl
  · rw [gI_sI_p _ _ _ _ (by omega), gI_sI_s]; rfl
/-- a field of a watcher behind forgetting -/
theorem gI_wf1 {σ : SS} {k j q i : Nat} {v : Int32} (hi : i < 4) : gI (sI (sI (sI σ (26 + 6 * k) j v) 0 10 0) 0 12 0) (26 + 6 * q) i = if q = k ∧ i = j then v else gI σ (26 + 6 * q) i := by
  rw [gI_sI_p _ _ _ _ (by omega), gI_sI_p _ _ _ _ (by omega), gI_sI]
  by_cases e : q = k
  · subst e; simp
  · rw [if_neg (by omega), if_neg (by omega)]
theorem gI_wf2 {σ : SS} {k j q i : Nat} {v : Int32} (hi : i < 4) : gI (sI (sI (sI σ 0 10 0) 0 12 0) (26 + 6 * k) j v) (26 + 6 * q) i = if q = k ∧ i = j then v else gI σ (26 + 6 * q) i := by
  rw [gI_sI]
  by_cases e : q = k
  · subst e
    rw [gI_sI_p _ _ _ _ (by omega), gI_sI_p _ _ _ _ (by omega)]; simp
  · rw [if_neg (by omega), if_neg (by omega), gI_sI_p _ _ _ _ (by omega), gI_sI_p _ _ _ _ (by omega)]

theorem p_measure {σ τ : SS} {a : AT} (hA : AB a) (hC : CI σ a) (hM : MI τ a) (x y : Int32) : prI (wp_X5_measure σ x y) (wp_X6_measure τ x y) := by
  have r := hA.2.1.1
  have hx := i_rng x
  have hy := i_rng y
  rw [← iz_of x, ← iz_of y]
  generalize x.toInt = z at hx
  generalize y.toInt = v at hy
  by_cases e1 : 0 ≤ z ∧ z < wN a.2.1
  · obtain ⟨k, rfl⟩ := Int.eq_ofNat_of_zero_le e1.1
    have hk : k < wN a.2.1 := by omega
    have hw := hC.1.1.2.2 k (by omega)
    have hok := hA.2.1.2 k hk
    have hso := okW_rng hok.1
    have mw := hM.1.2.2 k
    by_cases e2 : okW (wS a.2.1 k) v
    · have e3 := okB_iff.mpr e2
      refine ⟨iz (wM a.2.1 k), wA a (wMs a.2.1 k v), ⟨hA.1, ⟨r, fun q hq => ?_⟩, hA.2.2⟩, ?_, ?_⟩
      · show okW (wS a.2.1 q) (uz (wM a.2.1) k v q) ∧ _
        have := hA.2.1.2 q hq
        by_cases e : q = k
        · subst e; rw [uz_s]; exact ⟨e2, this.2⟩
        · rw [uz_n _ _ e]; exact this
      · unfold wp_X5_measure wp_X5_forgetWhatFollowed
        refine c_isWatcher hC.1.1.2 hA.2.1 hx (bz_d (fun _ => ?_) (fun q => ?_))
        · rw [iz_cl (by omega), hw.1]
          refine ⟨iz_in (by omega), c_isMeasure hso.1 hy (bz_c (fun _ => ⟨iz_in (by omega), iz_in (by omega), ?_⟩) (fun q => ?_))⟩
          · refine ⟨CI_wf (j := 1) hC (show k < 5 by omega) (wMs a.2.1 k v) rfl (sI_fg (by omega)) (fun q hq => ?_), hw.2.1⟩
            have hq2 := hC.1.1.2.2 q hq
            rw [gI_wf1 (by omega), gI_wf1 (by omega), gI_wf1 (by omega), gI_wf1 (by omega), if_neg (by omega)]
            show _ = iz (wS a.2.1 q) ∧ _ = iz (uz (wM a.2.1) k v q) ∧ _ = iz (wO a.2.1 q) ∧ _ = iz (wF a.2.1 q)
            by_cases e : q = k
            · subst e; rw [if_pos ⟨rfl, rfl⟩, if_neg (by omega), if_neg (by omega), uz_s]; exact ⟨hq2.1, rfl, hq2.2.2⟩
            · rw [if_neg (by omega), if_neg (by omega), if_neg (by omega), uz_n _ _ e]; exact hq2
          · rw [e3] at q; cases q
        · simp only [decide_eq_false_iff_not] at q; omega
      · unfold wp_X6_measure
        refine m_isWatcher hM.1.2 hA.2.1 hx (bz_d (fun _ => ?_) (fun q => ?_))
        · rw [iz_cl (by omega), mw.1]
          refine ⟨iz_in (by omega), m_isMeasure (by omega) hy (bz_c (fun _ => ⟨iz_in (by omega), iz_in (by omega), ?_⟩) (fun q => ?_))⟩
          · obtain ⟨⟨hMB, hMW⟩, hS, hF⟩ := hM
            refine ⟨⟨⟨⟨hMB.1, fun j => ?_, hMB.2.2⟩, hMW.1, fun j => ⟨?_, ?_, ?_, ?_⟩⟩, fun s hs => MS1_A (by omega) (hS s hs), hF⟩, mw.2.1⟩
            · rw [gA_sA_p _ _ _ _ (by decide)]; exact hMB.2.1 j
            · rw [gA_sA_p _ _ _ _ (by decide)]; exact (hMW.2 j).1
            · rw [gA_sA_s]; exact upd_uz (fun i => (hMW.2 i).2.1) j
            · rw [gA_sA_p _ _ _ _ (by decide)]; exact (hMW.2 j).2.2.1
            · rw [gA_sA_p _ _ _ _ (by decide)]; exact (hMW.2 j).2.2.2
          · rw [e3] at q; cases q
        · simp only [decide_eq_false_iff_not] at q; omega
    · have e3 : okB (wS a.2.1 k) v = false := by
        cases hh : okB (wS a.2.1 k) v with
        | false => rfl
        | true => exact absurd (okB_iff.mp hh) e2
      refine ⟨iz (-2), a, hA, ?_, ?_⟩
      · unfold wp_X5_measure
        refine c_isWatcher hC.1.1.2 hA.2.1 hx (bz_d (fun _ => ?_) (fun q => ?_))
        · rw [iz_cl (by omega), hw.1]
          refine ⟨iz_in (by omega), c_isMeasure hso.1 hy (bz_c (fun q => ?_) (fun q => ⟨hC, rfl⟩))⟩
          rw [e3] at q; cases q
        · exact ⟨hC, rfl⟩
      · unfold wp_X6_measure
        refine m_isWatcher hM.1.2 hA.2.1 hx (bz_d (fun _ => ?_) (fun q => ?_))
        · rw [iz_cl (by omega), mw.1]
          refine ⟨iz_in (by omega), m_isMeasure (by omega) hy (bz_c (fun q => ?_) (fun q => ⟨hM, rfl⟩))⟩
          rw [e3] at q; cases q
        · exact ⟨hM, rfl⟩
  · refine ⟨iz (-2), a, hA, ?_, ?_⟩
    · unfold wp_X5_measure
      refine c_isWatcher hC.1.1.2 hA.2.1 hx (bz_d (fun q => ?_) (fun q => ⟨hC, rfl⟩))
      simp only [decide_eq_true_eq] at q; omega
    · unfold wp_X6_measure
      refine m_isWatcher hM.1.2 hA.2.1 hx (bz_d (fun q => ?_) (fun q => ⟨hM, rfl⟩))
      simp only [decide_eq_true_eq] at q; omega
/-- which watcher, wish and number are taken -/
def okV (n : Nat) (z q v : Int) : Prop := (0 ≤ z ∧ z < n) ∧ ((q = 0 ∧ -1 ≤ v ∧ v ≤ 500) ∨ (q = 1 ∧ -1 ≤ v ∧ v ≤ 40))
theorem c_wish {σ : SS} {a : AT} {K : SS → Int32 → Prop} (hA : AB a) (hC : CI σ a) {z q v : Int} (hz : -2147483648 ≤ z ∧ z < 2147483648) (hq : -2147483648 ≤ q ∧ q < 2147483648) (hv : -2147483648 ≤ v ∧ v < 2147483648) (h1 : okV (wN a.2.1) z q v → q = 0 → ∀ σ', CI σ' (wA a (wNo a.2.1 z.toNat v)) → K σ' (iz (wO a.2.1 z.toNat))) (h2 : okV (wN a.2.1) z q v → q = 1 → ∀ σ', CI σ' (wA a (wFe a.2.1 z.toNat v)) → K σ' (iz (wF a.2.1 z.toNat))) (h3 : ¬ okV (wN a.2.1) z q v → K σ (iz (-2))) : wp_X5_wish σ (iz z) (iz q) (iz v) K := by
  have r := hA.2.1.1
  have go : okV (wN a.2.1) z q v → bl_X5_wish_51 K σ (iz z) (iz q) (iz v) := by
    intro e
    have e' := e
    unfold okV at e'
    obtain ⟨k, rfl⟩ := Int.eq_ofNat_of_zero_le (show 0 ≤ z by omega)
    have hw := hC.1.1.2.2 k (by omega)
    simp only [Int.toNat_natCast] at h1 h2
    unfold bl_X5_wish_51 wp_X5_forgetWhatFollowed
    rw [iz_cl (by omega)]
    refine ⟨iz_in (by omega), fun e0 => ?_, fun e0 => ?_⟩
    · have e1 : q = 1 := by
        rcases e'.2 with e2 | e2
        · exact absurd (by rw [e2.1]; rfl) e0
        · exact e2.1
      rw [gI_sI_p _ _ _ _ (by omega), gI_sI_p _ _ _ _ (by omega), hw.2.2.2]
      refine h2 e e1 _ (CI_wf (j := 3) hC (show k < 5 by omega) (wFe a.2.1 k v) rfl (fg_sI (by omega)) (fun q hq => ?_))
      have hq2 := hC.1.1.2.2 q hq
      rw [gI_wf2 (by omega), gI_wf2 (by omega), gI_wf2 (by omega), gI_wf2 (by omega), if_neg (by omega), if_neg (by omega), if_neg (by omega)]
      show _ = iz (wS a.2.1 q) ∧ _ = iz (wM a.2.1 q) ∧ _ = iz (wO a.2.1 q) ∧ _ = iz (uz (wF a.2.1) k v q)
      by_cases e : q = k
      · subst e; rw [if_pos ⟨rfl, rfl⟩, uz_s]; exact ⟨hq2.1, hq2.2.1, hq2.2.2.1, rfl⟩
      · rw [if_neg (by omega), uz_n _ _ e]; exact hq2
    · have e1 : q = 0 := by
        rw [show (0 : Int32) = iz 0 from rfl, iz_eq (by omega)] at e0; exact e0
      rw [gI_sI_p _ _ _ _ (by omega), gI_sI_p _ _ _ _ (by omega), hw.2.2.1]
      refine h1 e e1 _ (CI_wf (j := 2) hC (show k < 5 by omega) (wNo a.2.1 k v) rfl (fg_sI (by omega)) (fun q hq => ?_))
      have hq2 := hC.1.1.2.2 q hq
      rw [gI_wf2 (by omega), gI_wf2 (by omega), gI_wf2 (by omega), gI_wf2 (by omega), if_neg (by omega), if_neg (by omega)]
      show _ = iz (wS a.2.1 q) ∧ _ = iz (wM a.2.1 q) ∧ _ = iz (uz (wO a.2.1) k v q) ∧ _ = iz (wF a.2.1 q)
      by_cases e : q = k
      · subst e; rw [if_pos ⟨rfl, rfl⟩, if_neg (by omega), uz_s]; exact ⟨hq2.1, hq2.2.1, rfl, hq2.2.2.2⟩
      · rw [if_neg (by omega), if_neg (by omega), uz_n _ _ e]; exact hq2
  have key : ∀ m : Int, (q = 0 → m = 500) → (¬ q = 0 → m = 40) → bl_X5_wish_12 K σ (iz z) (iz q) (iz v) (iz m) := by
    intro m m0 m1
    unfold bl_X5_wish_12
    simp only [ize]
    refine c_isWatcher hC.1.1.2 hA.2.1 hz (bz_d (fun e1 => ?_) (fun e1 => ?_))
    · simp only [decide_eq_true_eq] at e1
      refine c_win hq (by omega) (bz_d (fun e2 => ?_) (fun e2 => ?_))
      · simp only [decide_eq_true_eq] at e2
        refine c_win hv (by omega) (bz_c (fun e3 => ?_) (fun e3 => ceq (by omega) (fun e4 => ?_) (fun e4 => ?_)))
        · simp only [decide_eq_true_eq] at e3
          exact go (by unfold okV; omega)
        · exact go (by unfold okV; omega)
        · simp only [decide_eq_false_iff_not] at e3
          exact h3 (by unfold okV; omega)
      · simp only [decide_eq_false_iff_not] at e2
        exact h3 (by unfold okV; omega)
    · simp only [decide_eq_false_iff_not] at e1
      exact h3 (by unfold okV; omega)
  unfold wp_X5_wish
  simp only [ize]
  exact cne (by omega) (fun e => key 40 (fun z => absurd z e) (fun _ => rfl)) (fun e => key 500 (fun _ => rfl) (fun z => absurd e z))
theorem m_wish {τ : SS} {a : AT} {K : SS → Int32 → Prop} (hA : AB a) (hM : MI τ a) {z q v : Int} (hz : -2147483648 ≤ z ∧ z < 2147483648) (hq : -2147483648 ≤ q ∧ q < 2147483648) (hv : -2147483648 ≤ v ∧ v < 2147483648) (h1 : okV (wN a.2.1) z q v → q = 0 → ∀ τ', MI τ' (wA a (wNo a.2.1 z.toNat v)) → K τ' (iz (wO a.2.1 z.toNat))) (h2 : okV (wN a.2.1) z q v → q = 1 → ∀ τ', MI τ' (wA a (wFe a.2.1 z.toNat v)) → K τ' (iz (wF a.2.1 z.toNat))) (h3 : ¬ okV (wN a.2.1) z q v → K τ (iz (-2))) : wp_X6_wish τ (iz z) (iz q) (iz v) K := by
  have r := hA.2.1.1
  have key : ∀ m : Int, (0 ≤ z ∧ z < wN a.2.1) → (0 ≤ q ∧ q ≤ 1) → (q = 0 → m = 500) → (¬ q = 0 → m = 40) → bl_X6_wish_31 K τ (iz z) (iz q) (iz v) (iz m) (iz (-1)) (iz v) := by
    intro m e1 e2 m0 m1
    obtain ⟨k, rfl⟩ := Int.eq_ofNat_of_zero_le e1.1
    simp only [Int.toNat_natCast] at h1 h2
    unfold bl_X6_wish_31 bl_X6_wish_59
    simp only [ize]
    have mw := hM.1.2.2 k
    refine m_in hv (by omega) (bz_c (fun e3 => ?_) (fun e3 => ?_))
    · simp only [decide_eq_true_eq] at e3
      rw [iz_cl (by omega), mw.2.2.1, mw.2.2.2]
      obtain ⟨⟨hMB, hMW⟩, hS, hF⟩ := hM
      refine cne (by omega) (fun e4 => ⟨iz_in (by omega), cne (by omega) (fun _ => ⟨iz_in (by omega), ?_⟩) (fun q => absurd q e4)⟩) (fun e4 => ⟨iz_in (by omega), cne (by omega) (fun q => absurd e4 q) (fun _ => ⟨iz_in (by omega), ?_⟩)⟩)
      · refine h2 (by unfold okV; omega) (by omega) _ ⟨⟨⟨hMB.1, fun j => ?_, hMB.2.2⟩, hMW.1, fun j => ⟨?_, ?_, ?_, ?_⟩⟩, fun s hs => MS1_A (by omega) (hS s hs), hF⟩
        · rw [gA_sA_p _ _ _ _ (by decide)]; exact hMB.2.1 j
        · rw [gA_sA_p _ _ _ _ (by decide)]; exact (hMW.2 j).1
        · rw [gA_sA_p _ _ _ _ (by decide)]; exact (hMW.2 j).2.1
        · rw [gA_sA_p _ _ _ _ (by decide)]; exact (hMW.2 j).2.2.1
        · rw [gA_sA_s]; exact upd_uz (fun i => (hMW.2 i).2.2.2) j
      · refine h1 (by unfold okV; omega) e4 _ ⟨⟨⟨hMB.1, fun j => ?_, hMB.2.2⟩, hMW.1, fun j => ⟨?_, ?_, ?_, ?_⟩⟩, fun s hs => MS1_A (by omega) (hS s hs), hF⟩
        · rw [gA_sA_p _ _ _ _ (by decide)]; exact hMB.2.1 j
        · rw [gA_sA_p _ _ _ _ (by decide)]; exact (hMW.2 j).1
        · rw [gA_sA_p _ _ _ _ (by decide)]; exact (hMW.2 j).2.1
        · rw [gA_sA_s]; exact upd_uz (fun i => (hMW.2 i).2.2.1) j
        · rw [gA_sA_p _ _ _ _ (by decide)]; exact (hMW.2 j).2.2.2
    · simp only [decide_eq_false_iff_not] at e3
      exact h3 (by unfold okV; omega)
  unfold wp_X6_wish
  simp only [ize]
  refine m_isWatcher hM.1.2 hA.2.1 hz (bz_d (fun e1 => ?_) (fun e1 => ?_))
  · simp only [decide_eq_true_eq] at e1
    refine m_in hq (by omega) (bz_d (fun e2 => ?_) (fun e2 => ?_))
    · simp only [decide_eq_true_eq] at e2
      exact cne (by omega) (fun e => key 40 e1 e2 (fun z => absurd z e) (fun _ => rfl)) (fun e => key 500 e1 e2 (fun _ => rfl) (fun z => absurd e z))
    · simp only [decide_eq_false_iff_not] at e2
      exact h3 (by unfold okV; omega)
  · simp only [decide_eq_false_iff_not] at e1
    exact h3 (by unfold okV; omega)
theorem p_wish {σ τ : SS} {a : AT} (hA : AB a) (hC : CI σ a) (hM : MI τ a) (x y u : Int32) : prI (wp_X5_wish σ x y u) (wp_X6_wish τ x y u) := by
  have r := hA.2.1.1
  have hx := i_rng x
  have hy := i_rng y
  have hu := i_rng u
  rw [← iz_of x, ← iz_of y, ← iz_of u]
  generalize x.toInt = z at hx
  generalize y.toInt = q at hy
  generalize u.toInt = v at hu
  by_cases e : okV (wN a.2.1) z q v
  · have e' := e
    unfold okV at e'
    by_cases e0 : q = 0
    · refine ⟨_, _, ?_, c_wish hA hC hx hy hu (fun _ _ σ' h => ⟨h, rfl⟩) (fun _ h => absurd h (by omega)) (fun h => absurd e h), m_wish hA hM hx hy hu (fun _ _ σ' h => ⟨h, rfl⟩) (fun _ h => absurd h (by omega)) (fun h => absurd e h)⟩
      refine ⟨hA.1, ⟨r, fun j hj => ?_⟩, hA.2.2⟩
      have := hA.2.1.2 j hj
      show okW (wS a.2.1 j) (wM a.2.1 j) ∧ (-1 ≤ uz (wO a.2.1) z.toNat v j ∧ uz (wO a.2.1) z.toNat v j ≤ 500) ∧ _
      by_cases e1 : j = z.toNat
      · subst e1; rw [uz_s]; exact ⟨this.1, by omega, this.2.2⟩
      · rw [uz_n _ _ e1]; exact this
    · refine ⟨_, _, ?_, c_wish hA hC hx hy hu (fun _ h => absurd h e0) (fun _ _ σ' h => ⟨h, rfl⟩) (fun h => absurd e h), m_wish hA hM hx hy hu (fun _ h => absurd h e0) (fun _ _ σ' h => ⟨h, rfl⟩) (fun h => absurd e h)⟩
      refine ⟨hA.1, ⟨r, fun j hj => ?_⟩, hA.2.2⟩
      have := hA.2.1.2 j hj
      show okW (wS a.2.1 j) (wM a.2.1 j) ∧ (-1 ≤ wO a.2.1 j ∧ wO a.2.1 j ≤ 500) ∧ (-1 ≤ uz (wF a.2.1) z.toNat v j ∧ uz (wF a.2.1) z.toNat v j ≤ 40)
      by_cases e1 : j = z.toNat
      · subst e1; rw [uz_s]; exact ⟨this.1, this.2.1, by omega⟩
      · rw [uz_n _ _ e1]; exact this
  · exact ⟨_, a, hA, c_wish hA hC hx hy hu (fun h => absurd h e) (fun h => absurd h e) (fun _ => ⟨hC, rfl⟩), m_wish hA hM hx hy hu (fun h => absurd h e) (fun h => absurd h e) (fun _ => ⟨hM, rfl⟩)⟩
