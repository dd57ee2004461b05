/-! ===== sheets: frames, findings, sheet, lose, put, get ===== -/
theorem CB_lo {σ σ' : SS} {b : BT} (h : ∀ p, p < 56 → (∀ k, p = 0 ∧ k = 8 ∨ gI σ' p k = gI σ p k) ∧ gA σ' p = gA σ p) (hC : CB σ b) : CB σ' b := by
  have e : ∀ k, k ≠ 8 → gI σ' 0 k = gI σ 0 k := fun k hk => ((h 0 (by omega)).1 k).resolve_left (by omega)
  unfold CB
  rw [e 1 (by decide), e 2 (by decide), e 3 (by decide), e 4 (by decide), (h 1 (by omega)).2]; exact hC
theorem CI0_lo {σ σ' : SS} {b : BT} {w : WT} (hw : wN w ≤ 5) (h : ∀ p, p < 56 → (∀ k, p = 0 ∧ k = 8 ∨ gI σ' p k = gI σ p k) ∧ gA σ' p = gA σ p) (hC : CI0 σ b w) : CI0 σ' b w := by
  have e : ∀ k, k ≠ 8 → gI σ' 0 k = gI σ 0 k := fun k hk => ((h 0 (by omega)).1 k).resolve_left (by omega)
  have e2 : ∀ p, 0 < p → p < 56 → ∀ k, gI σ' p k = gI σ p k := fun p h1 h2 k => ((h p h2).1 k).resolve_left (by omega)
  have e3 : ∀ p, p < 56 → gA σ' p = gA σ p := fun p hp => (h p hp).2
  obtain ⟨⟨h1, h2⟩, h3, h4⟩ := hC
  refine ⟨⟨CB_lo h h1, ?_, fun k hk => ?_⟩, ?_, ?_⟩
  · rw [e 6 (by decide)]; exact h2.1
  · rw [e2 _ (by omega) (by omega), e2 _ (by omega) (by omega), e2 _ (by omega) (by omega), e2 _ (by omega) (by omega)]; exact h2.2 k hk
  · rcases h3 with h3 | h3
    · left; rw [e 10 (by decide)]; exact h3
    · right
      refine ⟨by rw [e 10 (by decide)]; exact h3.1, ?_, fun k hk => ?_⟩
      · unfold CA
        rw [e2 _ (by omega) (by omega), e2 _ (by omega) (by omega), e2 _ (by omega) (by omega), e3 _ (by omega), e3 _ (by omega), e3 _ (by omega), e3 _ (by omega), e3 _ (by omega), e3 _ (by omega), e3 _ (by omega)]; exact h3.2.1
      · unfold CD
        rw [e2 _ (by omega) (by omega), e2 _ (by omega) (by omega), e2 _ (by omega) (by omega), e2 _ (by omega) (by omega), e2 _ (by omega) (by omega), e3 _ (by omega), e3 _ (by omega)]; exact h3.2.2 k hk
  · rcases h4 with h4 | h4
    · left; rw [e 12 (by decide)]; exact h4
    · right; exact ⟨by rw [e 12 (by decide)]; exact h4.1, fun p h5 h6 => by rw [e3 _ (by omega)]; exact h4.2 p h5 h6⟩
def fnA (a : AT) (v : Int32) : AT := (a.1, a.2.1, a.2.2.1, v)
def stA (a : AT) (s : Nat) (v : S1) : AT := (a.1, a.2.1, (fun k => if k = s then v else a.2.2.1 k), a.2.2.2)
theorem CI_fn {σ : SS} {a : AT} (hA : AB a) (hC : CI σ a) (v : Int32) : CI (sI σ 0 8 v) (fnA a v) := by
  refine ⟨CI0_lo (σ := σ) hA.2.1.1 (fun p hp => ⟨fun k => ?_, rfl⟩) hC.1, fun s hs => ?_, gI_sI_s _ _ _ _⟩
  · by_cases e : p = 0 ∧ k = 8
    · exact Or.inl e
    · right; rw [gI_sI, if_neg e]
  · exact CS1_ag (ag_sI (by omega)) (by omega) (hC.2.1 s hs)
theorem MI_fn {τ : SS} {a : AT} (hM : MI τ a) (v : Int32) : MI (sI τ 100 27 v) (fnA a v) := by
  obtain ⟨⟨hMB, hMW⟩, hS, hF⟩ := hM
  refine ⟨⟨⟨?_, hMB.2.1, ?_, ?_, ?_⟩, ?_, hMW.2⟩, hS, gI_sI_s _ _ _ _⟩
  · rw [gI_sI_k _ _ _ _ (by decide)]; exact hMB.1
  · rw [gI_sI_k _ _ _ _ (by decide)]; exact hMB.2.2.1
  · rw [gI_sI_k _ _ _ _ (by decide)]; exact hMB.2.2.2.1
  · rw [gI_sI_k _ _ _ _ (by decide)]; exact hMB.2.2.2.2
  · rw [gI_sI_k _ _ _ _ (by decide)]; exact hMW.1
theorem AB_fn {a : AT} (hA : AB a) (v : Int32) : AB (fnA a v) := hA
theorem AB_st {a : AT} (hA : AB a) {s : Nat} {v : S1} (hv : SB1 v) : AB (stA a s v) := by
  refine ⟨hA.1, hA.2.1, fun k hk => ?_⟩
  show SB1 (if k = s then v else a.2.2.1 k)
  by_cases e : k = s
  · rw [if_pos e]; exact hv
  · rw [if_neg e]; exact hA.2.2 k hk
/-- the same but for sheet s -/
def oS (s : Nat) (σ σ' : SS) : Prop := ∀ p, (p < 56 + 4 * s ∨ 60 + 4 * s ≤ p) → (∀ k, gI σ' p k = gI σ p k) ∧ gA σ' p = gA σ p ∧ gL σ' p = gL σ p ∧ gD σ' p = gD σ p
theorem oS_r (s : Nat) (σ : SS) : oS s σ σ := fun _ _ => ⟨fun _ => rfl, rfl, rfl, rfl⟩
theorem oS_t {s : Nat} {σ σ' σ'' : SS} (h : oS s σ σ') (h2 : oS s σ' σ'') : oS s σ σ'' := fun p hp => ⟨fun k => ((h2 p hp).1 k).trans ((h p hp).1 k), (h2 p hp).2.1.trans (h p hp).2.1, (h2 p hp).2.2.1.trans (h p hp).2.2.1, (h2 p hp).2.2.2.trans (h p hp).2.2.2⟩
theorem oS_I {s p k : Nat} {σ : SS} {v : Int32} (hp : 56 + 4 * s ≤ p ∧ p < 60 + 4 * s) : oS s σ (sI σ p k v) := fun q hq => ⟨fun j => gI_sI_p _ _ _ _ (by omega), rfl, rfl, rfl⟩
theorem oS_A {s p k : Nat} {σ : SS} {v : Int32} (hp : 56 + 4 * s ≤ p ∧ p < 60 + 4 * s) : oS s σ (sA σ p k v) := fun q hq => ⟨fun j => rfl, gA_sA_p _ _ _ _ (by omega), rfl, rfl⟩
theorem oS_L {s p k : Nat} {σ : SS} {v : Int64} (hp : 56 + 4 * s ≤ p ∧ p < 60 + 4 * s) : oS s σ (sL σ p k v) := fun q hq => ⟨fun j => rfl, rfl, gL_sL_p _ _ _ _ (by omega), rfl⟩
theorem oS_D {s p k : Nat} {σ : SS} {v : UInt64} (hp : 56 + 4 * s ≤ p ∧ p < 60 + 4 * s) : oS s σ (sD σ p k v) := fun q hq => ⟨fun j => rfl, rfl, rfl, gD_sD_p _ _ _ _ (by omega)⟩
theorem CI_oS {s : Nat} {σ σ' : SS} {a : AT} {v : S1} (hA : AB a) (h : oS s σ σ') (hC : CI σ a) (hv : CS1 σ' (56 + 4 * s) v) : CI σ' (stA a s v) := by
  refine ⟨CI0_lo hA.2.1.1 (fun p hp => ⟨fun k => Or.inr ((h p (by omega)).1 k), (h p (by omega)).2.1⟩) hC.1, fun k hk => ?_, ((h 0 (by omega)).1 8).trans hC.2.2⟩
  show CS1 σ' (56 + 4 * k) (if k = s then v else a.2.2.1 k)
  by_cases e : k = s
  · subst e; rw [if_pos rfl]; exact hv
  · rw [if_neg e]
    unfold CS1
    rw [(h _ (by omega)).1, (h _ (by omega)).1, (h _ (by omega)).1, (h (56 + 4 * k + 3) (by omega)).2.1, (h (56 + 4 * k + 1) (by omega)).2.2.1, (h (56 + 4 * k + 2) (by omega)).2.2.2]
    exact hC.2.1 k hk
/-- the same but for sheet s, and what is being moved, in the reference -/
def oM (s : Nat) (τ τ' : SS) : Prop := ((∀ k, gI τ' 100 k = gI τ 100 k) ∧ ∀ p, p < 110 → gA τ' p = gA τ p) ∧ (∀ k, k ≠ s → gA τ' 110 k = gA τ 110 k ∧ gA τ' 111 k = gA τ 111 k) ∧ ∀ j, (j < 40 * s ∨ 40 * s + 40 ≤ j) → gL τ' 112 j = gL τ 112 j ∧ gD τ' 113 j = gD τ 113 j ∧ gA τ' 114 j = gA τ 114 j
theorem oM_r (s : Nat) (τ : SS) : oM s τ τ := ⟨⟨fun _ => rfl, fun _ _ => rfl⟩, fun _ _ => ⟨rfl, rfl⟩, fun _ _ => ⟨rfl, rfl, rfl⟩⟩
theorem oM_t {s : Nat} {τ τ' τ'' : SS} (h : oM s τ τ') (h2 : oM s τ' τ'') : oM s τ τ'' := ⟨⟨fun k => (h2.1.1 k).trans (h.1.1 k), fun p hp => (h2.1.2 p hp).trans (h.1.2 p hp)⟩, fun k hk => ⟨(h2.2.1 k hk).1.trans (h.2.1 k hk).1, (h2.2.1 k hk).2.trans (h.2.1 k hk).2⟩, fun j hj => ⟨(h2.2.2 j hj).1.trans (h.2.2 j hj).1, (h2.2.2 j hj).2.1.trans (h.2.2 j hj).2.1, (h2.2.2 j hj).2.2.trans (h.2.2 j hj).2.2⟩⟩
theorem oM_A {s p : Nat} {τ : SS} {v : Int32} (hp : p = 110 ∨ p = 111) : oM s τ (sA τ p s v) := by
  refine ⟨⟨fun _ => rfl, fun q hq => gA_sA_p _ _ _ _ (by omega)⟩, fun k hk => ?_, fun j hj => ⟨rfl, rfl, by rw [gA_sA_p _ _ _ _ (by omega)]⟩⟩
  rcases hp with rfl | rfl
  · exact ⟨by rw [gA_sA_s, upd_n _ _ hk], by rw [gA_sA_p _ _ _ _ (by decide)]⟩
  · exact ⟨by rw [gA_sA_p _ _ _ _ (by decide)], by rw [gA_sA_s, upd_n _ _ hk]⟩
theorem oM_L {s i : Nat} {τ : SS} {v : Int64} (hi : i < 40) : oM s τ (sL τ 112 (40 * s + i) v) :=
  ⟨⟨fun _ => rfl, fun q hq => rfl⟩, fun k hk => ⟨rfl, rfl⟩, fun j hj => ⟨by rw [gL_sL_s, upL_n _ _ (by omega)], rfl, rfl⟩⟩
theorem oM_D {s i : Nat} {τ : SS} {v : UInt64} (hi : i < 40) : oM s τ (sD τ 113 (40 * s + i) v) :=
  ⟨⟨fun _ => rfl, fun q hq => rfl⟩, fun k hk => ⟨rfl, rfl⟩, fun j hj => ⟨rfl, by rw [gD_sD_s, upD_n _ _ (by omega)], rfl⟩⟩
theorem oM_B {s i : Nat} {τ : SS} {v : Int32} (hi : i < 40) : oM s τ (sA τ 114 (40 * s + i) v) :=
  ⟨⟨fun _ => rfl, fun q hq => gA_sA_p _ _ _ _ (by omega)⟩, fun k hk => ⟨by rw [gA_sA_p _ _ _ _ (by decide)], by rw [gA_sA_p _ _ _ _ (by decide)]⟩, fun j hj => ⟨rfl, rfl, by rw [gA_sA_s, upd_n _ _ (by omega)]⟩⟩
theorem MI_oM {s : Nat} {τ τ' : SS} {a : AT} {v : S1} (hA : AB a) (h : oM s τ τ') (hM : MI τ a) (hv : MS1 τ' s v) : MI τ' (stA a s v) := by
  obtain ⟨⟨hMB, hMW⟩, hS, hF⟩ := hM
  refine ⟨⟨?_, ?_, fun k => ?_⟩, fun k hk => ?_, (h.1.1 27).trans hF⟩
  · unfold MB
    rw [h.1.1, h.1.1, h.1.1, h.1.1, h.1.2 101 (by omega)]; exact hMB
  · rw [h.1.1]; exact hMW.1
  · rw [h.1.2 104 (by omega), h.1.2 105 (by omega), h.1.2 106 (by omega), h.1.2 107 (by omega)]; exact hMW.2 k
  · show MS1 τ' k (if k = s then v else a.2.2.1 k)
    by_cases e : k = s
    · subst e; rw [if_pos rfl]; exact hv
    · rw [if_neg e]
      obtain ⟨g1, g2, g3, g4⟩ := hS k hk
      have hn := (hA.2.2 k hk).2.1
      refine ⟨by rw [(h.2.1 k e).1]; exact g1, fun q => by rw [(h.2.1 k e).2]; exact g2 q, fun q i hi => ?_, fun q i hi => ?_⟩
      · rw [(h.2.2 (40 * k + i) (by omega)).1]; exact g3 q i hi
      · rw [(h.2.2 (40 * k + i) (by omega)).2.1, (h.2.2 (40 * k + i) (by omega)).2.2]; exact g4 q i hi
theorem c_isSheet {σ : SS} {K : SS → Int32 → Prop} {z : Int} (hz : -2147483648 ≤ z ∧ z < 2147483648) (h : K σ (bz (decide (0 ≤ z ∧ z ≤ 3)))) : wp_X5_isSheet σ (iz z) K := by
  unfold wp_X5_isSheet
  simp only [ize]
  exact c_win hz (by omega) ⟨bz_or _, h⟩
theorem m_isSheet {τ : SS} {K : SS → Int32 → Prop} {z : Int} (hz : -2147483648 ≤ z ∧ z < 2147483648) (h : K τ (bz (decide (0 ≤ z ∧ z ≤ 3)))) : wp_X6_isSheet τ (iz z) K := by
  unfold wp_X6_isSheet
  simp only [ize]
  exact m_in hz (by omega) ⟨bz_or _, h⟩
theorem c_find {σ : SS} {K : SS → Int32 → Prop} {n : Int} (h : K (sI σ 0 8 (iz n)) (iz (-10 - n))) : wp_X5_find σ (iz n) K := by
  unfold wp_X5_find
  simp only [ize, iz_sub]; exact h
theorem m_meets {τ : SS} {K : SS → Int32 → Prop} {n : Int} (h : K (sI τ 100 27 (iz n)) (iz (-10 - n))) : wp_X6_meets τ (iz n) K := by
  unfold wp_X6_meets
  simp only [ize, iz_sub]; exact h
theorem c_refusal {σ : SS} {a : AT} {K : SS → Int32 → Prop} (hA : AB a) (hC : CI σ a) {z f : Int} (hz : -2147483648 ≤ z ∧ z < 2147483648) (hf : 0 ≤ f ∧ f ≤ 1) (h0 : ¬ (0 ≤ z ∧ z ≤ 3) → K σ (iz (-2))) (h1 : 0 ≤ z ∧ z ≤ 3 → qF (a.2.2.1 z.toNat) = -1 → K (sI σ 0 8 (iz 1)) (iz (-11))) (h2 : 0 ≤ z ∧ z ≤ 3 → ¬ qF (a.2.2.1 z.toNat) = -1 → ¬ qF (a.2.2.1 z.toNat) = f → K (sI σ 0 8 (iz 3)) (iz (-13))) (h3 : 0 ≤ z ∧ z ≤ 3 → qF (a.2.2.1 z.toNat) = f → K σ (iz 0)) : wp_X5_refusalOfRow σ (iz z) (iz f) K := by
  unfold wp_X5_refusalOfRow
  simp only [ize]
  refine c_isSheet hz (bz_c (fun e1 => ?_) (fun e1 => ?_))
  · simp only [decide_eq_true_eq] at e1
    obtain ⟨s, rfl⟩ := Int.eq_ofNat_of_zero_le e1.1
    simp only [Int.toNat_natCast] at h1 h2 h3
    have hs := hC.2.1 s (by omega)
    have hb := hA.2.2 s (by omega)
    rw [iz_cl (by omega), hs.1]
    refine ⟨iz_in (by omega), bz_d (fun e2 => c_find (h1 e1 ?_)) (fun e2 => ⟨iz_in (by omega), ?_⟩)⟩
    · simpa using e2
    · simp only [decide_eq_false_iff_not] at e2
      rw [(hs.2.1 e2).1]
      exact cne (by have := hb.1; omega) (fun e3 => c_find (h2 e1 e2 e3)) (fun e3 => h3 e1 e3)
  · simp only [decide_eq_false_iff_not] at e1
    exact h0 e1
def nwS (f : Int) (n : Nat) : S1 := (f, n, fun _ => 0, fun _ => FP.dconst0, fun _ => false)
theorem SB_nw {f : Int} {n : Nat} (hf : 0 ≤ f ∧ f ≤ 1) (hn : n ≤ 40) : SB1 (nwS f n) := ⟨by show -1 ≤ f ∧ f ≤ 1; omega, hn, fun _ _ _ _ => n64_0⟩
theorem c_beginS {σ : SS} {a : AT} {K : SS → Prop} (hA : AB a) (hC : CI σ a) {s n : Nat} {f : Int} (hs : s < 4) (hf : 0 ≤ f ∧ f ≤ 1) (hn : n ≤ 40) (h : ∀ σ', CI σ' (stA a s (nwS f n)) → K σ') : wp_X3_begin σ (56 + 4 * s) (iz f) (iz n) K := by
  unfold wp_X3_begin
  simp only [ize]
  refine fx3_i (fun σ1 x2 x3 => x2 = iz n ∧ oS s σ σ1 ∧ (gI σ1 (56 + 4 * s) 0 = iz 0 ∧ gI σ1 (56 + 4 * s) 1 = iz f ∧ gI σ1 (56 + 4 * s) 2 = iz n) ∧ ∃ k : Nat, k ≤ n ∧ x3 = iz k ∧ ∀ i, i < k → gL σ1 (56 + 4 * s + 1) i = 0 ∧ gD σ1 (56 + 4 * s + 2) i = FP.dconst0 ∧ gA σ1 (56 + 4 * s + 3) i = 0) (fun _ _ x3 => 50 - x3.toNatClampNeg) ?_ _ _ _ ⟨rfl, oS_t (oS_t (oS_I (by omega)) (oS_I (by omega))) (oS_I (by omega)), ⟨?_, ?_, ?_⟩, 0, Nat.zero_le _, rfl, fun i hi => absurd hi (Nat.not_lt_zero i)⟩
  · rintro L σ1 x2 x3 ⟨rfl, ho, ⟨g0, g1, g2⟩, k, hk, rfl, hj⟩ hL
    unfold lb_X3_begin_17 wp_X3_putNumber
    refine cle (by omega) (fun e => ?_) (fun e => ?_)
    · have e3 : k = n := by omega
      subst e3
      refine h _ (CI_oS hA ho hC ⟨?_, fun _ => ⟨g1, g2⟩, fun _ i hi => (hj i hi).1, fun _ i hi => ⟨(hj i hi).2.2, fun _ => (hj i hi).2.1⟩⟩)
      rw [g0]; show iz 0 = bz (decide (f = -1)); rw [show decide (f = -1) = false by simp; omega]; rfl
    · rw [iz_cl (by omega)]
      refine ⟨iz_in (by omega), iz_in (by omega), iz_in (by omega), ?_⟩
      refine hL _ _ _ ⟨rfl, oS_t ho (oS_t (oS_t (oS_L (by omega)) (oS_D (by omega))) (oS_A (by omega))), ⟨g0, g1, g2⟩, k + 1, by omega, iz_s k, fun i hi => ?_⟩ ?_
      · by_cases e4 : i = k
        · subst e4
          exact ⟨by rw [gL_sA, gL_sD, gL_sL_s, upL_s], by rw [gD_sA, gD_sD_s, upD_s], by rw [gA_sA_s, upd_s]; rfl⟩
        · have := hj i (by omega)
          exact ⟨by rw [gL_sA, gL_sD, gL_sL_s, upL_n _ _ e4]; exact this.1, by rw [gD_sA, gD_sD_s, upD_n _ _ e4]; exact this.2.1, by rw [gA_sA_s, upd_n _ _ e4]; exact this.2.2⟩
      · rw [ize.2.1, iz_s, iz_cl (by omega), iz_cl (by omega)]; omega
  · rw [gI_sI_k _ _ _ _ (by decide), gI_sI_k _ _ _ _ (by decide), gI_sI_s]
  · rw [gI_sI_k _ _ _ _ (by decide), gI_sI_s]
  · rw [gI_sI_s]
/-- which sheet, form and size are taken -/
def okS (z f n : Int) : Prop := (0 ≤ z ∧ z ≤ 3) ∧ (0 ≤ f ∧ f ≤ 1) ∧ n ≤ 40
theorem p_sheet {σ τ : SS} {a : AT} (hA : AB a) (hC : CI σ a) (hM : MI τ a) (x y u : Int32) : prI (wp_X5_sheet σ x y u) (wp_X6_sheet τ x y u) := by
  have hx := i_rng x
  have hy := i_rng y
  have hu := i_rng u
  rw [← iz_of x, ← iz_of y, ← iz_of u]
  generalize x.toInt = z at hx
  generalize y.toInt = f at hy
  generalize u.toInt = n at hu
  have hc : ∀ K : SS → Int32 → Prop, (okS z f n → 0 ≤ n → ∀ σ', CI σ' (stA a z.toNat (nwS f n.toNat)) → K σ' (iz n)) → (okS z f n → n < 0 → K (sI σ 0 8 (iz 5)) (iz (-15))) → (¬ okS z f n → K σ (iz (-2))) → wp_X5_sheet σ (iz z) (iz f) (iz n) K := by
    intro K h1 h2 h3
    unfold wp_X5_sheet
    simp only [ize]
    refine c_isSheet hx (bz_d (fun e1 => ?_) (fun e1 => ?_))
    · simp only [decide_eq_true_eq] at e1
      refine c_win hy (by omega) (bz_d (fun e2 => ?_) (fun e2 => ?_))
      · simp only [decide_eq_true_eq] at e2
        refine cle (by omega) (fun e3 => cle (by omega) (fun e4 => ?_) (fun e4 => c_find (h2 ⟨e1, e2, e3⟩ e4))) (fun e3 => h3 (by unfold okS; omega))
        obtain ⟨s, rfl⟩ := Int.eq_ofNat_of_zero_le e1.1
        obtain ⟨n, rfl⟩ := Int.eq_ofNat_of_zero_le e4
        rw [iz_cl (by omega)]
        refine ⟨iz_in (by omega), c_beginS hA hC (by omega) e2 (by omega) (fun σ' hC' => h1 ⟨e1, e2, e3⟩ e4 σ' ?_)⟩
        simp only [Int.toNat_natCast]; exact hC'
      · simp only [decide_eq_false_iff_not] at e2
        exact h3 (by unfold okS; omega)
    · simp only [decide_eq_false_iff_not] at e1
      exact h3 (by unfold okS; omega)
  have hm : ∀ K : SS → Int32 → Prop, (okS z f n → 0 ≤ n → ∀ τ', MI τ' (stA a z.toNat (nwS f n.toNat)) → K τ' (iz n)) → (okS z f n → n < 0 → K (sI τ 100 27 (iz 5)) (iz (-15))) → (¬ okS z f n → K τ (iz (-2))) → wp_X6_sheet τ (iz z) (iz f) (iz n) K := by
    intro K h1 h2 h3
    unfold wp_X6_sheet
    simp only [ize]
    refine m_isSheet hx (bz_d (fun e1 => ?_) (fun e1 => ?_))
    · simp only [decide_eq_true_eq] at e1
      refine m_in hy (by omega) (bz_d (fun e2 => ?_) (fun e2 => ?_))
      · simp only [decide_eq_true_eq] at e2
        refine cle (by omega) (fun e3 => cle (by omega) (fun e4 => ?_) (fun e4 => m_meets (h2 ⟨e1, e2, e3⟩ e4))) (fun e3 => h3 (by unfold okS; omega))
        obtain ⟨s, rfl⟩ := Int.eq_ofNat_of_zero_le e1.1
        obtain ⟨n, rfl⟩ := Int.eq_ofNat_of_zero_le e4
        simp only [Int.toNat_natCast] at h1
        have h1 := h1 ⟨e1, e2, e3⟩ e4
        rw [iz_cl (by omega), iz_mul, show (40 : Int) * (s : Int) = ((40 * s : Nat) : Int) by omega]
        refine ⟨iz_in (by omega), iz_in (by omega), ?_⟩
        refine fx4_i (fun τ1 x1 x3 x4 => x1 = iz s ∧ x3 = iz n ∧ oM s τ τ1 ∧ (gA τ1 110 s = iz f ∧ gA τ1 111 s = iz n) ∧ ∃ k : Nat, k ≤ 40 ∧ x4 = iz ((40 * s + k : Nat) : Int) ∧ ∀ i, i < k → gL τ1 112 (40 * s + i) = 0 ∧ gD τ1 113 (40 * s + i) = FP.dconst0 ∧ gA τ1 114 (40 * s + i) = 0) (fun _ _ _ x4 => 300 - x4.toNatClampNeg) ?_ _ _ _ _ ⟨rfl, rfl, oM_t (oM_A (Or.inl rfl)) (oM_A (Or.inr rfl)), ⟨?_, ?_⟩, 0, Nat.zero_le _, rfl, fun i hi => absurd hi (Nat.not_lt_zero i)⟩
        · rintro L τ1 x1 x3 x4 ⟨rfl, rfl, ho, ⟨g0, g1⟩, k, hk, rfl, hj⟩ hL
          unfold lb_X6_sheet_55
          simp only [ize]
          rw [iz_mul, iz_add]
          refine cle (by omega) (fun e => ?_) (fun e => ?_)
          · refine h1 _ (MI_oM hA ho hM ⟨g0, fun _ => g1, fun _ i hi => ?_, fun _ i hi => ?_⟩)
            · have hi : i < n := hi
              exact (hj i (by omega)).1
            · have hi : i < n := hi
              exact ⟨(hj i (by omega)).2.2, fun _ => (hj i (by omega)).2.1⟩
          · rw [iz_cl (by omega)]
            refine ⟨iz_in (by omega), iz_in (by omega), iz_in (by omega), ?_⟩
            refine hL _ _ _ _ ⟨rfl, rfl, oM_t ho (oM_t (oM_t (oM_L (by omega)) (oM_D (by omega))) (oM_B (by omega))), ⟨?_, ?_⟩, k + 1, by omega, iz_s (40 * s + k), fun i hi => ?_⟩ ?_
            · rw [gA_sA_p _ _ _ _ (by decide)]; exact g0
            · rw [gA_sA_p _ _ _ _ (by decide)]; exact g1
            · by_cases e4 : i = k
              · subst e4
                exact ⟨by rw [gL_sA, gL_sD, gL_sL_s, upL_s], by rw [gD_sA, gD_sD_s, upD_s], by rw [gA_sA_s, upd_s]; rfl⟩
              · have := hj i (by omega)
                exact ⟨by rw [gL_sA, gL_sD, gL_sL_s, upL_n _ _ (by omega)]; exact this.1, by rw [gD_sA, gD_sD_s, upD_n _ _ (by omega)]; exact this.2.1, by rw [gA_sA_s, upd_n _ _ (by omega)]; exact this.2.2⟩
            · rw [iz_s, iz_cl (by omega), iz_cl (by omega)]; omega
        · rw [gA_sA_p _ _ _ _ (by decide), gA_sA_s, upd_s]
        · rw [gA_sA_s, upd_s]
      · simp only [decide_eq_false_iff_not] at e2
        exact h3 (by unfold okS; omega)
    · simp only [decide_eq_false_iff_not] at e1
      exact h3 (by unfold okS; omega)
  by_cases e : okS z f n
  · by_cases e0 : 0 ≤ n
    · exact ⟨_, _, AB_st hA (SB_nw e.2.1 (by have := e.2.2; omega)), hc _ (fun _ _ σ' h => ⟨h, rfl⟩) (fun _ h => absurd h (by omega)) (fun h => absurd e h), hm _ (fun _ _ σ' h => ⟨h, rfl⟩) (fun _ h => absurd h (by omega)) (fun h => absurd e h)⟩
    · exact ⟨iz (-15), fnA a (iz 5), hA, hc _ (fun _ h => absurd h e0) (fun _ _ => ⟨CI_fn hA hC _, rfl⟩) (fun h => absurd e h), hm _ (fun _ h => absurd h e0) (fun _ _ => ⟨MI_fn hM _, rfl⟩) (fun h => absurd e h)⟩
  · exact ⟨iz (-2), a, hA, hc _ (fun h => absurd h e) (fun h => absurd h e) (fun _ => ⟨hC, rfl⟩), hm _ (fun h => absurd h e) (fun h => absurd h e) (fun _ => ⟨hM, rfl⟩)⟩
def loS (v : S1) : S1 := (-1, qN v, qL v, qD v, qB v)
theorem p_lose {σ τ : SS} {a : AT} (hA : AB a) (hC : CI σ a) (hM : MI τ a) (x : Int32) : prI (wp_X5_lose σ x) (wp_X6_lose τ x) := by
  have hx := i_rng x
  rw [← iz_of x]
  generalize x.toInt = z at hx
  by_cases e1 : 0 ≤ z ∧ z ≤ 3
  · obtain ⟨s, rfl⟩ := Int.eq_ofNat_of_zero_le e1.1
    have hs : s < 4 := by omega
    have cs := hC.2.1 s hs
    have ms := hM.2.1 s hs
    have hb := hA.2.2 s hs
    by_cases e2 : qF (a.2.2.1 s) = -1
    · refine ⟨iz (-11), fnA a (iz 1), hA, ?_, ?_⟩
      · unfold wp_X5_lose
        refine c_isSheet hx (bz_c (fun _ => ?_) (fun e3 => ?_))
        · rw [iz_cl (by omega), cs.1]
          exact ⟨iz_in (by omega), bz_d (fun _ => c_find (n := 1) ⟨CI_fn hA hC _, rfl⟩) (fun e3 => by simp at e3; exact absurd e2 e3)⟩
        · simp only [decide_eq_false_iff_not] at e3; omega
      · unfold wp_X6_lose
        refine m_isSheet hx (bz_c (fun _ => ?_) (fun e3 => ?_))
        · rw [iz_cl (by omega), ms.1]
          exact ⟨iz_in (by omega), cne (a := qF (a.2.2.1 s)) (b := -1) (by have := hb.1; omega) (fun e3 => absurd e2 e3) (fun _ => m_meets (n := 1) ⟨MI_fn hM _, rfl⟩)⟩
        · simp only [decide_eq_false_iff_not] at e3; omega
    · refine ⟨iz (qN (a.2.2.1 s)), stA a s (loS (a.2.2.1 s)), AB_st hA ⟨by show (-1 : Int) ≤ -1 ∧ (-1 : Int) ≤ 1; omega, hb.2.1, fun h => absurd h (by show ¬ (-1 : Int) = 1; decide)⟩, ?_, ?_⟩
      · unfold wp_X5_lose
        refine c_isSheet hx (bz_c (fun _ => ?_) (fun e3 => ?_))
        · rw [iz_cl (by omega), cs.1]
          refine ⟨iz_in (by omega), bz_d (fun e3 => by simp at e3; exact absurd e3 e2) (fun _ => ⟨iz_in (by omega), iz_in (by omega), ?_, ?_⟩)⟩
          · refine CI_oS hA (oS_I (by omega)) hC ⟨?_, fun h => absurd rfl h, fun h => absurd h (by show ¬ (-1 : Int) = 0; decide), fun h => absurd h (by show ¬ (-1 : Int) = 1; decide)⟩
            rw [gI_sI_s]; rfl
          · rw [gI_sI_k _ _ _ _ (by decide)]; exact (cs.2.1 e2).2
        · simp only [decide_eq_false_iff_not] at e3; omega
      · unfold wp_X6_lose
        refine m_isSheet hx (bz_c (fun _ => ?_) (fun e3 => ?_))
        · rw [iz_cl (by omega), ms.1]
          refine ⟨iz_in (by omega), cne (a := qF (a.2.2.1 s)) (b := -1) (by have := hb.1; omega) (fun _ => ⟨iz_in (by omega), iz_in (by omega), ?_, ?_⟩) (fun e3 => absurd e3 e2)⟩
          · refine MI_oM hA (oM_A (Or.inl rfl)) hM ⟨?_, fun h => absurd rfl h, fun h => absurd h (by show ¬ (-1 : Int) = 0; decide), fun h => absurd h (by show ¬ (-1 : Int) = 1; decide)⟩
            rw [gA_sA_s, upd_s]; rfl
          · rw [gA_sA_p _ _ _ _ (by decide)]; exact ms.2.1 e2
        · simp only [decide_eq_false_iff_not] at e3; omega
  · refine ⟨iz (-2), a, hA, ?_, ?_⟩
    · unfold wp_X5_lose
      refine c_isSheet hx (bz_c (fun e3 => ?_) (fun _ => ⟨hC, rfl⟩))
      simp only [decide_eq_true_eq] at e3; omega
    · unfold wp_X6_lose
      refine m_isSheet hx (bz_c (fun e3 => ?_) (fun _ => ⟨hM, rfl⟩))
      simp only [decide_eq_true_eq] at e3; omega
